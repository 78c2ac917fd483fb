def b_M_readStatement_50_0 (L : Nat → G2 → Option (G2))  (g : G2) : Option (G2) :=
  some g
def b_M_readStatement_50_1 (L : Nat → G2 → Option (G2))  (g : G2) : Option (G2) :=
  some g
def l_M_readStatement_50 : Nat → Nat → G2 → Option (G2)
  | 0 => fun _ _ => none
  | n + 1 => fun t g => match t with
    | 0 => b_M_readStatement_50_0 (l_M_readStatement_50 n) g
    | _ => b_M_readStatement_50_1 (l_M_readStatement_50 n) g
set_option maxHeartbeats 4000000 in
set_option maxRecDepth 100000 in
theorem rl_M_readStatement_50 (d : Nat) : ∀ (n : Nat)  (g : G2) (g' : G2), (l_M_readStatement_50 n 0 g = some g' → Rt (d + 9) m_M_readStatement 134 [none] [] g none g') ∧ (l_M_readStatement_50 n 1 g = some g' → Rt (d + 9) m_M_readStatement 169 [none] [] g none g') := by
  intro n
  induction n with
  | zero => intro  g g'; exact ⟨fun hf => (by cases hf), fun hf => (by cases hf)⟩
  | succ n ih =>
    intro  g g'
    refine ⟨?_, ?_⟩
    · intro hf
      replace hf : b_M_readStatement_50_0 (l_M_readStatement_50 n) g = some g' := hf
      unfold b_M_readStatement_50_0 at hf
      cases hf
      exact Rt.retV ok_M_readStatement rfl rfl
    · intro hf
      replace hf : b_M_readStatement_50_1 (l_M_readStatement_50 n) g = some g' := hf
      unfold b_M_readStatement_50_1 at hf
      cases hf
      exact Rt.retV ok_M_readStatement rfl rfl
def f_M_readStatement_50  (g : G2) : Option (G2) :=
  (f_M_whatIs_50 (rI g 49 5) g).bind fun q1 =>
  if ir q1.1 then
  if q1.1 = 0 then
    (f_M_readLabelled_50 q1.2).bind fun q3 =>
    some q3
  else
  if q1.1 = 1 then
    (f_M_readConstants_50 q1.2).bind fun q4 =>
    some q4
  else
  if q1.1 = 2 then
    (f_M_readVariables_50 q1.2).bind fun q5 =>
    some q5
  else
  if q1.1 = 3 then
    (f_M_readApart_50 q1.2).bind fun q6 =>
    some q6
  else
  if q1.1 = 4 then
    (f_M_fail_50 (-3) (rI q1.2 49 5) q1.2).bind fun q7 =>
    some q7
  else
  if q1.1 = 5 then
    (f_M_fail_50 (-3) (rI q1.2 49 5) q1.2).bind fun q8 =>
    some q8
  else
  if q1.1 = 6 then
    (f_M_fail_50 (-3) (rI q1.2 49 5) q1.2).bind fun q9 =>
    some q9
  else
  if q1.1 = 7 then
    (f_M_fail_50 (-3) (rI q1.2 49 5) q1.2).bind fun q10 =>
    some q10
  else
  if q1.1 = 8 then
    (f_M_fail_50 (-3) (rI q1.2 49 5) q1.2).bind fun q11 =>
    some q11
  else
  if q1.1 = 9 then
    (f_M_fail_50 (-3) (rI q1.2 49 5) q1.2).bind fun q12 =>
    some q12
  else
  if q1.1 = 10 then
    if ir (rI q1.2 49 14) then
    if (rI q1.2 49 14) = 6 then
      (f_M_fail_50 (-7) (rI q1.2 49 5) q1.2).bind fun q15 =>
      l_M_readStatement_50 20000 0 q15
    else
      l_M_readStatement_50 20000 0 (gI (gI q1.2 49 14 ((rI q1.2 49 14) + 1)) 49 5 ((rI q1.2 49 5) + 1))
    else none
  else
  if q1.1 = 11 then
    if ir (rI q1.2 49 14) then
    if (rI q1.2 49 14) = 0 then
      (f_M_fail_50 (-5) (rI q1.2 49 5) q1.2).bind fun q18 =>
      l_M_readStatement_50 20000 1 q18
    else
      (f_M_closeScope_50 q1.2).bind fun q19 =>
      l_M_readStatement_50 20000 1 (gI q19 49 5 ((rI q19 49 5) + 1))
    else none
  else
    (f_M_fail_50 (-3) (rI q1.2 49 5) q1.2).bind fun q20 =>
    some q20
  else none
set_option maxHeartbeats 4000000 in
set_option maxRecDepth 100000 in
theorem c_M_readStatement_50 (d : Nat)  (g : G2) (g' : G2) (hf : f_M_readStatement_50 g = some g') : C2 (d + 9) m_M_readStatement [vR 50] g none g' := by
  unfold f_M_readStatement_50 at hf
  refine C2.of rfl rfl rfl (Nat.le_of_ble_eq_true rfl) ?_
  obtain ⟨q1, e1, hf⟩ := Option.bind_eq_some_iff.mp hf
  refine Rt.path ok_M_readStatement 3 [] rfl trivial ?_
  refine Rt.callV ok_M_readStatement rfl ml_M_165 [vI _] cf_M_whatIs rfl rfl (c_M_whatIs_50 (d + 7) _ _ _ _ e1) (Nat.le_of_ble_eq_true rfl) ?_
  have h2 : ir q1.1 := by
    by_cases q : ir q1.1
    · exact q
    · rw [if_neg q] at hf; cases hf
  rw [if_pos h2] at hf
  by_cases h21_0 : q1.1 = 0
  · rw [if_pos h21_0] at hf
    refine Rt.path ok_M_readStatement 1 [0] rfl ⟨⟨h2, (show q1.1 = 0 + ((0 : Nat) : Int) by omega), (show q1.1 ≤ 11 by omega), by decide⟩, trivial⟩ ?_
    obtain ⟨q3, e3, hf⟩ := Option.bind_eq_some_iff.mp hf
    refine Rt.path ok_M_readStatement 1 [] rfl trivial ?_
    refine Rt.callV ok_M_readStatement rfl ml_M_341 [] cf_M_readLabelled rfl rfl (c_M_readLabelled_50 d _ _ e3) (Nat.le_of_ble_eq_true rfl) ?_
    cases hf
    exact Rt.retV ok_M_readStatement rfl rfl
  · rw [if_neg h21_0] at hf
    by_cases h21_1 : q1.1 = 1
    · rw [if_pos h21_1] at hf
      refine Rt.path ok_M_readStatement 1 [1] rfl ⟨⟨h2, (show q1.1 = 0 + ((1 : Nat) : Int) by omega), (show q1.1 ≤ 11 by omega), by decide⟩, trivial⟩ ?_
      obtain ⟨q4, e4, hf⟩ := Option.bind_eq_some_iff.mp hf
      refine Rt.path ok_M_readStatement 1 [] rfl trivial ?_
      refine Rt.callV ok_M_readStatement rfl ml_M_344 [] cf_M_readConstants rfl rfl (c_M_readConstants_50 (d + 4) _ _ e4) (Nat.le_of_ble_eq_true rfl) ?_
      cases hf
      exact Rt.retV ok_M_readStatement rfl rfl
    · rw [if_neg h21_1] at hf
      by_cases h21_2 : q1.1 = 2
      · rw [if_pos h21_2] at hf
        refine Rt.path ok_M_readStatement 1 [2] rfl ⟨⟨h2, (show q1.1 = 0 + ((2 : Nat) : Int) by omega), (show q1.1 ≤ 11 by omega), by decide⟩, trivial⟩ ?_
        obtain ⟨q5, e5, hf⟩ := Option.bind_eq_some_iff.mp hf
        refine Rt.path ok_M_readStatement 1 [] rfl trivial ?_
        refine Rt.callV ok_M_readStatement rfl ml_M_347 [] cf_M_readVariables rfl rfl (c_M_readVariables_50 (d + 4) _ _ e5) (Nat.le_of_ble_eq_true rfl) ?_
        cases hf
        exact Rt.retV ok_M_readStatement rfl rfl
      · rw [if_neg h21_2] at hf
        by_cases h21_3 : q1.1 = 3
        · rw [if_pos h21_3] at hf
          refine Rt.path ok_M_readStatement 1 [3] rfl ⟨⟨h2, (show q1.1 = 0 + ((3 : Nat) : Int) by omega), (show q1.1 ≤ 11 by omega), by decide⟩, trivial⟩ ?_
          obtain ⟨q6, e6, hf⟩ := Option.bind_eq_some_iff.mp hf
          refine Rt.path ok_M_readStatement 1 [] rfl trivial ?_
          refine Rt.callV ok_M_readStatement rfl ml_M_350 [] cf_M_readApart rfl rfl (c_M_readApart_50 (d + 4) _ _ e6) (Nat.le_of_ble_eq_true rfl) ?_
          cases hf
          exact Rt.retV ok_M_readStatement rfl rfl
        · rw [if_neg h21_3] at hf
          by_cases h21_4 : q1.1 = 4
          · rw [if_pos h21_4] at hf
            refine Rt.path ok_M_readStatement 1 [4] rfl ⟨⟨h2, (show q1.1 = 0 + ((4 : Nat) : Int) by omega), (show q1.1 ≤ 11 by omega), by decide⟩, trivial⟩ ?_
            obtain ⟨q7, e7, hf⟩ := Option.bind_eq_some_iff.mp hf
            refine Rt.path ok_M_readStatement 4 [] rfl trivial ?_
            refine Rt.callV ok_M_readStatement rfl ml_M_157 [vI _, vI _] cf_M_fail rfl rfl (c_M_fail_50 (d + 8) _ _ _ _ e7) (Nat.le_of_ble_eq_true rfl) ?_
            cases hf
            exact Rt.retV ok_M_readStatement rfl rfl
          · rw [if_neg h21_4] at hf
            by_cases h21_5 : q1.1 = 5
            · rw [if_pos h21_5] at hf
              refine Rt.path ok_M_readStatement 1 [5] rfl ⟨⟨h2, (show q1.1 = 0 + ((5 : Nat) : Int) by omega), (show q1.1 ≤ 11 by omega), by decide⟩, trivial⟩ ?_
              obtain ⟨q8, e8, hf⟩ := Option.bind_eq_some_iff.mp hf
              refine Rt.path ok_M_readStatement 4 [] rfl trivial ?_
              refine Rt.callV ok_M_readStatement rfl ml_M_157 [vI _, vI _] cf_M_fail rfl rfl (c_M_fail_50 (d + 8) _ _ _ _ e8) (Nat.le_of_ble_eq_true rfl) ?_
              cases hf
              exact Rt.retV ok_M_readStatement rfl rfl
            · rw [if_neg h21_5] at hf
              by_cases h21_6 : q1.1 = 6
              · rw [if_pos h21_6] at hf
                refine Rt.path ok_M_readStatement 1 [6] rfl ⟨⟨h2, (show q1.1 = 0 + ((6 : Nat) : Int) by omega), (show q1.1 ≤ 11 by omega), by decide⟩, trivial⟩ ?_
                obtain ⟨q9, e9, hf⟩ := Option.bind_eq_some_iff.mp hf
                refine Rt.path ok_M_readStatement 4 [] rfl trivial ?_
                refine Rt.callV ok_M_readStatement rfl ml_M_157 [vI _, vI _] cf_M_fail rfl rfl (c_M_fail_50 (d + 8) _ _ _ _ e9) (Nat.le_of_ble_eq_true rfl) ?_
                cases hf
                exact Rt.retV ok_M_readStatement rfl rfl
              · rw [if_neg h21_6] at hf
                by_cases h21_7 : q1.1 = 7
                · rw [if_pos h21_7] at hf
                  refine Rt.path ok_M_readStatement 1 [7] rfl ⟨⟨h2, (show q1.1 = 0 + ((7 : Nat) : Int) by omega), (show q1.1 ≤ 11 by omega), by decide⟩, trivial⟩ ?_
                  obtain ⟨q10, e10, hf⟩ := Option.bind_eq_some_iff.mp hf
                  refine Rt.path ok_M_readStatement 4 [] rfl trivial ?_
                  refine Rt.callV ok_M_readStatement rfl ml_M_157 [vI _, vI _] cf_M_fail rfl rfl (c_M_fail_50 (d + 8) _ _ _ _ e10) (Nat.le_of_ble_eq_true rfl) ?_
                  cases hf
                  exact Rt.retV ok_M_readStatement rfl rfl
                · rw [if_neg h21_7] at hf
                  by_cases h21_8 : q1.1 = 8
                  · rw [if_pos h21_8] at hf
                    refine Rt.path ok_M_readStatement 1 [8] rfl ⟨⟨h2, (show q1.1 = 0 + ((8 : Nat) : Int) by omega), (show q1.1 ≤ 11 by omega), by decide⟩, trivial⟩ ?_
                    obtain ⟨q11, e11, hf⟩ := Option.bind_eq_some_iff.mp hf
                    refine Rt.path ok_M_readStatement 4 [] rfl trivial ?_
                    refine Rt.callV ok_M_readStatement rfl ml_M_157 [vI _, vI _] cf_M_fail rfl rfl (c_M_fail_50 (d + 8) _ _ _ _ e11) (Nat.le_of_ble_eq_true rfl) ?_
                    cases hf
                    exact Rt.retV ok_M_readStatement rfl rfl
                  · rw [if_neg h21_8] at hf
                    by_cases h21_9 : q1.1 = 9
                    · rw [if_pos h21_9] at hf
                      refine Rt.path ok_M_readStatement 1 [9] rfl ⟨⟨h2, (show q1.1 = 0 + ((9 : Nat) : Int) by omega), (show q1.1 ≤ 11 by omega), by decide⟩, trivial⟩ ?_
                      obtain ⟨q12, e12, hf⟩ := Option.bind_eq_some_iff.mp hf
                      refine Rt.path ok_M_readStatement 4 [] rfl trivial ?_
                      refine Rt.callV ok_M_readStatement rfl ml_M_157 [vI _, vI _] cf_M_fail rfl rfl (c_M_fail_50 (d + 8) _ _ _ _ e12) (Nat.le_of_ble_eq_true rfl) ?_
                      cases hf
                      exact Rt.retV ok_M_readStatement rfl rfl
                    · rw [if_neg h21_9] at hf
                      by_cases h21_10 : q1.1 = 10
                      · rw [if_pos h21_10] at hf
                        refine Rt.path ok_M_readStatement 1 [10] rfl ⟨⟨h2, (show q1.1 = 0 + ((10 : Nat) : Int) by omega), (show q1.1 ≤ 11 by omega), by decide⟩, trivial⟩ ?_
                        have h13 : ir (rI q1.2 49 14) := by
                          by_cases q : ir (rI q1.2 49 14)
                          · exact q
                          · rw [if_neg q] at hf; cases hf
                        rw [if_pos h13] at hf
                        by_cases h14 : (rI q1.2 49 14) = 6
                        · rw [if_pos h14] at hf
                          refine Rt.path ok_M_readStatement 4 [0] rfl ⟨⟨⟨h13, (show ir 6 by decide)⟩, h14⟩, trivial⟩ ?_
                          obtain ⟨q15, e15, hf⟩ := Option.bind_eq_some_iff.mp hf
                          refine Rt.path ok_M_readStatement 4 [] rfl trivial ?_
                          refine Rt.callV ok_M_readStatement rfl ml_M_157 [vI _, vI _] cf_M_fail rfl rfl (c_M_fail_50 (d + 8) _ _ _ _ e15) (Nat.le_of_ble_eq_true rfl) ?_
                          refine Rt.path ok_M_readStatement 1 [] rfl trivial ?_
                          exact Rt.weak ((rl_M_readStatement_50 d _ _ _).1 hf) trivial
                        · rw [if_neg h14] at hf
                          refine Rt.path ok_M_readStatement 4 [1] rfl ⟨⟨⟨h13, (show ir 6 by decide)⟩, h14⟩, trivial⟩ ?_
                          refine Rt.path ok_M_readStatement 12 [] rfl trivial ?_
                          exact Rt.weak ((rl_M_readStatement_50 d _ _ _).1 hf) trivial
                      · rw [if_neg h21_10] at hf
                        by_cases h21_11 : q1.1 = 11
                        · rw [if_pos h21_11] at hf
                          refine Rt.path ok_M_readStatement 1 [11] rfl ⟨⟨h2, (show q1.1 = 0 + ((11 : Nat) : Int) by omega), (show q1.1 ≤ 11 by omega), by decide⟩, trivial⟩ ?_
                          have h16 : ir (rI q1.2 49 14) := by
                            by_cases q : ir (rI q1.2 49 14)
                            · exact q
                            · rw [if_neg q] at hf; cases hf
                          rw [if_pos h16] at hf
                          by_cases h17 : (rI q1.2 49 14) = 0
                          · rw [if_pos h17] at hf
                            refine Rt.path ok_M_readStatement 3 [0] rfl ⟨⟨h16, h17⟩, trivial⟩ ?_
                            obtain ⟨q18, e18, hf⟩ := Option.bind_eq_some_iff.mp hf
                            refine Rt.path ok_M_readStatement 4 [] rfl trivial ?_
                            refine Rt.callV ok_M_readStatement rfl ml_M_157 [vI _, vI _] cf_M_fail rfl rfl (c_M_fail_50 (d + 8) _ _ _ _ e18) (Nat.le_of_ble_eq_true rfl) ?_
                            refine Rt.path ok_M_readStatement 1 [] rfl trivial ?_
                            exact Rt.weak ((rl_M_readStatement_50 d _ _ _).2 hf) trivial
                          · rw [if_neg h17] at hf
                            refine Rt.path ok_M_readStatement 3 [1] rfl ⟨⟨h16, h17⟩, trivial⟩ ?_
                            obtain ⟨q19, e19, hf⟩ := Option.bind_eq_some_iff.mp hf
                            refine Rt.path ok_M_readStatement 1 [] rfl trivial ?_
                            refine Rt.callV ok_M_readStatement rfl ml_M_353 [] cf_M_closeScope rfl rfl (c_M_closeScope_50 (d + 8) _ _ e19) (Nat.le_of_ble_eq_true rfl) ?_
                            refine Rt.path ok_M_readStatement 6 [] rfl trivial ?_
                            exact Rt.weak ((rl_M_readStatement_50 d _ _ _).2 hf) trivial
                        · rw [if_neg h21_11] at hf
                          refine Rt.path ok_M_readStatement 1 [12] rfl ⟨⟨h2, (show q1.1 < 0 ∨ 11 < q1.1 by omega), by decide⟩, trivial⟩ ?_
                          obtain ⟨q20, e20, hf⟩ := Option.bind_eq_some_iff.mp hf
                          refine Rt.path ok_M_readStatement 4 [] rfl trivial ?_
                          refine Rt.callV ok_M_readStatement rfl ml_M_157 [vI _, vI _] cf_M_fail rfl rfl (c_M_fail_50 (d + 8) _ _ _ _ e20) (Nat.le_of_ble_eq_true rfl) ?_
                          cases hf
                          exact Rt.retV ok_M_readStatement rfl rfl
def b_M_read_50_0 (L : Nat → G2 → Option (Int × G2))  (g : G2) : Option (Int × G2) :=
  if ir (rI g 49 6) then
  if (rI g 49 6) = 0 then
    (f_M_come_50 g).bind fun q4 =>
    if ir q4.1 then
    if q4.1 = 0 then
      L 1 q4.2
    else
      (f_M_readStatement_50 q4.2).bind fun q7 =>
      L 0 q7
    else none
  else
    L 1 g
  else none
def b_M_read_50_1 (L : Nat → G2 → Option (Int × G2))  (g : G2) : Option (Int × G2) :=
  if ir (rI g 49 6) then
  if (rI g 49 6) = 0 then
    if ir (rI g 49 14) then
    if 0 < (rI g 49 14) then
      (f_M_fail_50 (-2) (rI g 49 4) g).bind fun q12 =>
      L 2 q12
    else
      L 2 g
    else none
  else
    L 2 g
  else none
def b_M_read_50_2 (L : Nat → G2 → Option (Int × G2))  (g : G2) : Option (Int × G2) :=
  if ir (rI g 49 6) then
  if (rI g 49 6) = 0 then
    some ((rI g 49 27), g)
  else
    some ((rI g 49 6), g)
  else none
def l_M_read_50 : Nat → Nat → G2 → Option (Int × G2)
  | 0 => fun _ _ => none
  | n + 1 => fun t g => match t with
    | 0 => b_M_read_50_0 (l_M_read_50 n) g
    | 1 => b_M_read_50_1 (l_M_read_50 n) g
    | _ => b_M_read_50_2 (l_M_read_50 n) g
set_option maxHeartbeats 4000000 in
set_option maxRecDepth 100000 in
theorem rl_M_read_50 (d : Nat) : ∀ (n : Nat)  (g : G2) (r : Int) (g' : G2), (l_M_read_50 n 0 g = some (r, g') → Rt (d + 10) m_M_read 44 [some (vR 50)] [] g (some (vI r)) g') ∧ (l_M_read_50 n 1 g = some (r, g') → Rt (d + 10) m_M_read 65 [some (vR 50)] [] g (some (vI r)) g') ∧ (l_M_read_50 n 2 g = some (r, g') → Rt (d + 10) m_M_read 89 [some (vR 50)] [] g (some (vI r)) g') := by
  intro n
  induction n with
  | zero => intro  g r g'; exact ⟨fun hf => (by cases hf), fun hf => (by cases hf), fun hf => (by cases hf)⟩
  | succ n ih =>
    intro  g r g'
    refine ⟨?_, ?_, ?_⟩
    · intro hf
      replace hf : b_M_read_50_0 (l_M_read_50 n) g = some (r, g') := hf
      unfold b_M_read_50_0 at hf
      have h2 : ir (rI g 49 6) := by
        by_cases q : ir (rI g 49 6)
        · exact q
        · rw [if_neg q] at hf; cases hf
      rw [if_pos h2] at hf
      by_cases h3 : (rI g 49 6) = 0
      · rw [if_pos h3] at hf
        refine Rt.path ok_M_read 3 [0] rfl ⟨⟨h2, h3⟩, trivial⟩ ?_
        obtain ⟨q4, e4, hf⟩ := Option.bind_eq_some_iff.mp hf
        refine Rt.path ok_M_read 1 [] rfl trivial ?_
        refine Rt.callV ok_M_read rfl ml_M_161 [] cf_M_come rfl rfl (c_M_come_50 (d + 7) _ _ _ e4) (Nat.le_of_ble_eq_true rfl) ?_
        have h5 : ir q4.1 := by
          by_cases q : ir q4.1
          · exact q
          · rw [if_neg q] at hf; cases hf
        rw [if_pos h5] at hf
        by_cases h6 : q4.1 = 0
        · rw [if_pos h6] at hf
          refine Rt.path ok_M_read 1 [1] rfl ⟨⟨h5, h6⟩, trivial⟩ ?_
          exact Rt.weak ((ih _ _ _).2.1 hf) ⟨rfl, trivial⟩
        · rw [if_neg h6] at hf
          refine Rt.path ok_M_read 1 [0] rfl ⟨⟨h5, h6⟩, trivial⟩ ?_
          obtain ⟨q7, e7, hf⟩ := Option.bind_eq_some_iff.mp hf
          refine Rt.path ok_M_read 1 [] rfl trivial ?_
          refine Rt.callV ok_M_read rfl ml_M_359 [] cf_M_readStatement rfl rfl (c_M_readStatement_50 d _ _ e7) (Nat.le_of_ble_eq_true rfl) ?_
          refine Rt.path ok_M_read 1 [] rfl trivial ?_
          exact Rt.weak ((ih _ _ _).1 hf) ⟨rfl, trivial⟩
      · rw [if_neg h3] at hf
        refine Rt.path ok_M_read 3 [1] rfl ⟨⟨h2, h3⟩, trivial⟩ ?_
        exact Rt.weak ((ih _ _ _).2.1 hf) ⟨rfl, trivial⟩
    · intro hf
      replace hf : b_M_read_50_1 (l_M_read_50 n) g = some (r, g') := hf
      unfold b_M_read_50_1 at hf
      have h8 : ir (rI g 49 6) := by
        by_cases q : ir (rI g 49 6)
        · exact q
        · rw [if_neg q] at hf; cases hf
      rw [if_pos h8] at hf
      by_cases h9 : (rI g 49 6) = 0
      · rw [if_pos h9] at hf
        refine Rt.path ok_M_read 3 [0] rfl ⟨⟨h8, h9⟩, trivial⟩ ?_
        have h10 : ir (rI g 49 14) := by
          by_cases q : ir (rI g 49 14)
          · exact q
          · rw [if_neg q] at hf; cases hf
        rw [if_pos h10] at hf
        by_cases h11 : 0 < (rI g 49 14)
        · rw [if_pos h11] at hf
          refine Rt.path ok_M_read 3 [0] rfl ⟨⟨h10, h11⟩, trivial⟩ ?_
          obtain ⟨q12, e12, hf⟩ := Option.bind_eq_some_iff.mp hf
          refine Rt.path ok_M_read 4 [] rfl trivial ?_
          refine Rt.callV ok_M_read rfl ml_M_157 [vI _, vI _] cf_M_fail rfl rfl (c_M_fail_50 (d + 9) _ _ _ _ e12) (Nat.le_of_ble_eq_true rfl) ?_
          exact Rt.weak ((ih _ _ _).2.2 hf) ⟨rfl, trivial⟩
        · rw [if_neg h11] at hf
          refine Rt.path ok_M_read 3 [1] rfl ⟨⟨h10, (Int.not_lt.mp h11)⟩, trivial⟩ ?_
          exact Rt.weak ((ih _ _ _).2.2 hf) ⟨rfl, trivial⟩
      · rw [if_neg h9] at hf
        refine Rt.path ok_M_read 3 [1] rfl ⟨⟨h8, h9⟩, trivial⟩ ?_
        exact Rt.weak ((ih _ _ _).2.2 hf) ⟨rfl, trivial⟩
    · intro hf
      replace hf : b_M_read_50_2 (l_M_read_50 n) g = some (r, g') := hf
      unfold b_M_read_50_2 at hf
      have h13 : ir (rI g 49 6) := by
        by_cases q : ir (rI g 49 6)
        · exact q
        · rw [if_neg q] at hf; cases hf
      rw [if_pos h13] at hf
      by_cases h14 : (rI g 49 6) = 0
      · rw [if_pos h14] at hf
        refine Rt.path ok_M_read 3 [0] rfl ⟨⟨h13, h14⟩, trivial⟩ ?_
        cases hf
        refine Rt.path ok_M_read 3 [] rfl trivial ?_
        exact Rt.retI ok_M_read rfl rfl
      · rw [if_neg h14] at hf
        refine Rt.path ok_M_read 3 [1] rfl ⟨⟨h13, h14⟩, trivial⟩ ?_
        cases hf
        refine Rt.path ok_M_read 2 [] rfl trivial ?_
        exact Rt.retI ok_M_read rfl rfl
def f_M_read_50  (g : G2) : Option (Int × G2) :=
  (f_M_findWords_50 g).bind fun q1 =>
  l_M_read_50 20000 0 (gI (gI (gI (gI (gI (gI (gI (gI q1 49 5 0) 49 6 0) 49 7 (-1)) 49 8 0) 49 14 0) 49 15 0) 49 23 0) 49 27 0)
set_option maxHeartbeats 4000000 in
set_option maxRecDepth 100000 in
theorem c_M_read_50 (d : Nat)  (g : G2) (r : Int) (g' : G2) (hf : f_M_read_50 g = some (r, g')) : C2 (d + 10) m_M_read [vR 50] g (some (vI r)) g' := by
  unfold f_M_read_50 at hf
  refine C2.of rfl rfl rfl (Nat.le_of_ble_eq_true rfl) ?_
  obtain ⟨q1, e1, hf⟩ := Option.bind_eq_some_iff.mp hf
  refine Rt.path ok_M_read 1 [] rfl trivial ?_
  refine Rt.callV ok_M_read rfl ml_M_356 [] cf_M_findWords rfl rfl (c_M_findWords_50 (d + 9) _ _ e1) (Nat.le_of_ble_eq_true rfl) ?_
  refine Rt.path ok_M_read 24 [] rfl trivial ?_
  exact Rt.weak ((rl_M_read_50 d _ _ _ _).1 hf) ⟨rfl, trivial⟩
def f_M_place_50  (g : G2) : Option (Int × G2) :=
  some ((rI g 49 7), g)
set_option maxHeartbeats 4000000 in
set_option maxRecDepth 100000 in
theorem c_M_place_50 (d : Nat)  (g : G2) (r : Int) (g' : G2) (hf : f_M_place_50 g = some (r, g')) : C2 d m_M_place [vR 50] g (some (vI r)) g' := by
  unfold f_M_place_50 at hf
  refine C2.of rfl rfl rfl (Nat.le_of_ble_eq_true rfl) ?_
  cases hf
  refine Rt.path ok_M_place 2 [] rfl trivial ?_
  exact Rt.retI ok_M_place rfl rfl
def b_M_countNames_50_0 (L : Nat → Int → Int → Int → G2 → Option (Int × G2)) (i1 : Int) (i2 : Int) (i3 : Int) (g : G2) : Option (Int × G2) :=
  if ir i3 then
  if ir (rI g 49 8) then
  if i3 < (rI g 49 8) then
    if 0 ≤ i3 ∧ i3 < 60 then
    if ir (rA g 54 i3) then
    if ir i1 then
    if (rA g 54 i3) = i1 then
      L 0 i1 (i2 + 1) (i3 + 1) g
    else
      L 0 i1 i2 (i3 + 1) g
    else none
    else none
    else none
  else
    some (i2, g)
  else none
  else none
def l_M_countNames_50 : Nat → Nat → Int → Int → Int → G2 → Option (Int × G2)
  | 0 => fun _ _ _ _ _ => none
  | n + 1 => fun t i1 i2 i3 g => match t with
    | _ => b_M_countNames_50_0 (l_M_countNames_50 n) i1 i2 i3 g
set_option maxHeartbeats 4000000 in
set_option maxRecDepth 100000 in
theorem rl_M_countNames_50 (d : Nat) : ∀ (n : Nat) (i1 : Int) (i2 : Int) (i3 : Int) (g : G2) (r : Int) (g' : G2), (l_M_countNames_50 n 0 i1 i2 i3 g = some (r, g') → Rt d m_M_countNames 4 [some (vR 50), some (vI i1), some (vI i2), some (vI i3)] [] g (some (vI r)) g') := by
  intro n
  induction n with
  | zero => intro i1 i2 i3 g r g'; exact fun hf => by cases hf
  | succ n ih =>
    intro i1 i2 i3 g r g'
    intro hf
    replace hf : b_M_countNames_50_0 (l_M_countNames_50 n) i1 i2 i3 g = some (r, g') := hf
    unfold b_M_countNames_50_0 at hf
    have h1 : ir i3 := by
      by_cases q : ir i3
      · exact q
      · rw [if_neg q] at hf; cases hf
    rw [if_pos h1] at hf
    have h2 : ir (rI g 49 8) := by
      by_cases q : ir (rI g 49 8)
      · exact q
      · rw [if_neg q] at hf; cases hf
    rw [if_pos h2] at hf
    by_cases h3 : i3 < (rI g 49 8)
    · rw [if_pos h3] at hf
      refine Rt.path ok_M_countNames 4 [0] rfl ⟨⟨⟨h1, h2⟩, h3⟩, trivial⟩ ?_
      have h4 : 0 ≤ i3 ∧ i3 < 60 := by
        by_cases q : 0 ≤ i3 ∧ i3 < 60
        · exact q
        · rw [if_neg q] at hf; cases hf
      rw [if_pos h4] at hf
      have h5 : ir (rA g 54 i3) := by
        by_cases q : ir (rA g 54 i3)
        · exact q
        · rw [if_neg q] at hf; cases hf
      rw [if_pos h5] at hf
      have h6 : ir i1 := by
        by_cases q : ir i1
        · exact q
        · rw [if_neg q] at hf; cases hf
      rw [if_pos h6] at hf
      by_cases h7 : (rA g 54 i3) = i1
      · rw [if_pos h7] at hf
        refine Rt.path ok_M_countNames 6 [0] rfl ⟨(ix_60 h4), ⟨⟨h5, h6⟩, h7⟩, trivial⟩ ?_
        refine Rt.path ok_M_countNames 7 [] rfl trivial ?_
        exact Rt.weak ((ih _ _ _ _ _ _) hf) ⟨rfl, rfl, rfl, rfl, trivial⟩
      · rw [if_neg h7] at hf
        refine Rt.path ok_M_countNames 6 [1] rfl ⟨(ix_60 h4), ⟨⟨h5, h6⟩, h7⟩, trivial⟩ ?_
        refine Rt.path ok_M_countNames 4 [] rfl trivial ?_
        exact Rt.weak ((ih _ _ _ _ _ _) hf) ⟨rfl, rfl, rfl, rfl, trivial⟩
    · rw [if_neg h3] at hf
      refine Rt.path ok_M_countNames 4 [1] rfl ⟨⟨⟨h1, h2⟩, (Int.not_lt.mp h3)⟩, trivial⟩ ?_
      cases hf
      refine Rt.path ok_M_countNames 1 [] rfl trivial ?_
      exact Rt.retI ok_M_countNames rfl rfl
def f_M_countNames_50 (a1 : Int) (g : G2) : Option (Int × G2) :=
  l_M_countNames_50 20000 0 a1 0 0 g
set_option maxHeartbeats 4000000 in
set_option maxRecDepth 100000 in
theorem c_M_countNames_50 (d : Nat) (a1 : Int) (g : G2) (r : Int) (g' : G2) (hf : f_M_countNames_50 a1 g = some (r, g')) : C2 d m_M_countNames [vR 50, vI a1] g (some (vI r)) g' := by
  unfold f_M_countNames_50 at hf
  refine C2.of rfl rfl rfl (Nat.le_of_ble_eq_true rfl) ?_
  refine Rt.path ok_M_countNames 4 [] rfl trivial ?_
  exact Rt.weak ((rl_M_countNames_50 d _ _ _ _ _ _ _) hf) ⟨rfl, rfl, rfl, rfl, trivial⟩
def b_M_count_50_0 (L : Nat → Int → Int → Int → G2 → Option (Int × G2)) (i1 : Int) (i2 : Int) (i3 : Int) (g : G2) : Option (Int × G2) :=
  if ir i3 then
  if ir (rI g 49 15) then
  if i3 < (rI g 49 15) then
    if ir i1 then
    if i1 = 6 then
      if 0 ≤ i3 ∧ i3 < 40 then
      if ir (rA g 58 i3) then
      if (rA g 58 i3) = 7 then
        if 0 ≤ (rA g 64 i3) ∧ (rA g 64 i3) < 41 then
        if ir (rA g 77 (rA g 64 i3)) then
        if (rA g 77 (rA g 64 i3)) = 0 then
          L 0 i1 i2 (i3 + 1) g
        else
          L 0 i1 (i2 + 1) (i3 + 1) g
        else none
        else none
      else
        L 0 i1 i2 (i3 + 1) g
      else none
      else none
    else
      if 0 ≤ i3 ∧ i3 < 40 then
      if ir (rA g 58 i3) then
      if ir (i1 + 2) then
      if (rA g 58 i3) = (i1 + 2) then
        L 0 i1 (i2 + 1) (i3 + 1) g
      else
        L 0 i1 i2 (i3 + 1) g
      else none
      else none
      else none
    else none
  else
    some (i2, g)
  else none
  else none
def l_M_count_50 : Nat → Nat → Int → Int → Int → G2 → Option (Int × G2)
  | 0 => fun _ _ _ _ _ => none
  | n + 1 => fun t i1 i2 i3 g => match t with
    | _ => b_M_count_50_0 (l_M_count_50 n) i1 i2 i3 g
set_option maxHeartbeats 4000000 in
set_option maxRecDepth 100000 in
theorem rl_M_count_50 (d : Nat) : ∀ (n : Nat) (i1 : Int) (i2 : Int) (i3 : Int) (g : G2) (r : Int) (g' : G2), (l_M_count_50 n 0 i1 i2 i3 g = some (r, g') → Rt (d + 1) m_M_count 29 [some (vR 50), some (vI i1), some (vI i2), some (vI i3), none] [] g (some (vI r)) g') := by
  intro n
  induction n with
  | zero => intro i1 i2 i3 g r g'; exact fun hf => by cases hf
  | succ n ih =>
    intro i1 i2 i3 g r g'
    intro hf
    replace hf : b_M_count_50_0 (l_M_count_50 n) i1 i2 i3 g = some (r, g') := hf
    unfold b_M_count_50_0 at hf
    have h6 : ir i3 := by
      by_cases q : ir i3
      · exact q
      · rw [if_neg q] at hf; cases hf
    rw [if_pos h6] at hf
    have h7 : ir (rI g 49 15) := by
      by_cases q : ir (rI g 49 15)
      · exact q
      · rw [if_neg q] at hf; cases hf
    rw [if_pos h7] at hf
    by_cases h8 : i3 < (rI g 49 15)
    · rw [if_pos h8] at hf
      refine Rt.path ok_M_count 4 [0] rfl ⟨⟨⟨h6, h7⟩, h8⟩, trivial⟩ ?_
      have h9 : ir i1 := by
        by_cases q : ir i1
        · exact q
        · rw [if_neg q] at hf; cases hf
      rw [if_pos h9] at hf
      by_cases h10 : i1 = 6
      · rw [if_pos h10] at hf
        refine Rt.path ok_M_count 3 [0] rfl ⟨⟨⟨h9, (show ir 6 by decide)⟩, h10⟩, trivial⟩ ?_
        have h11 : 0 ≤ i3 ∧ i3 < 40 := by
          by_cases q : 0 ≤ i3 ∧ i3 < 40
          · exact q
          · rw [if_neg q] at hf; cases hf
        rw [if_pos h11] at hf
        have h12 : ir (rA g 58 i3) := by
          by_cases q : ir (rA g 58 i3)
          · exact q
          · rw [if_neg q] at hf; cases hf
        rw [if_pos h12] at hf
        by_cases h13 : (rA g 58 i3) = 7
        · rw [if_pos h13] at hf
          refine Rt.path ok_M_count 6 [0] rfl ⟨(ix_40 h11), ⟨⟨h12, (show ir 7 by decide)⟩, h13⟩, trivial⟩ ?_
          have h14 : 0 ≤ (rA g 64 i3) ∧ (rA g 64 i3) < 41 := by
            by_cases q : 0 ≤ (rA g 64 i3) ∧ (rA g 64 i3) < 41
            · exact q
            · rw [if_neg q] at hf; cases hf
          rw [if_pos h14] at hf
          have h15 : ir (rA g 77 (rA g 64 i3)) := by
            by_cases q : ir (rA g 77 (rA g 64 i3))
            · exact q
            · rw [if_neg q] at hf; cases hf
          rw [if_pos h15] at hf
          by_cases h16 : (rA g 77 (rA g 64 i3)) = 0
          · rw [if_pos h16] at hf
            refine Rt.path ok_M_count 8 [1] rfl ⟨(ix_40 h11), (ix_41 h14), ⟨h15, h16⟩, trivial⟩ ?_
            refine Rt.path ok_M_count 9 [1] rfl ⟨⟨(show ir 0 by decide), (show (0 : Int) = (0 : Int) by decide)⟩, trivial⟩ ?_
            exact Rt.weak ((ih _ _ _ _ _ _) hf) ⟨rfl, rfl, rfl, rfl, trivial⟩
          · rw [if_neg h16] at hf
            refine Rt.path ok_M_count 8 [0] rfl ⟨(ix_40 h11), (ix_41 h14), ⟨h15, h16⟩, trivial⟩ ?_
            refine Rt.path ok_M_count 12 [0] rfl ⟨⟨(show ir 1 by decide), (show ¬ (1 : Int) = (0 : Int) by decide)⟩, trivial⟩ ?_
            exact Rt.weak ((ih _ _ _ _ _ _) hf) ⟨rfl, rfl, rfl, rfl, trivial⟩
        · rw [if_neg h13] at hf
          refine Rt.path ok_M_count 6 [1] rfl ⟨(ix_40 h11), ⟨⟨h12, (show ir 7 by decide)⟩, h13⟩, trivial⟩ ?_
          refine Rt.path ok_M_count 9 [1] rfl ⟨⟨(show ir 0 by decide), (show (0 : Int) = (0 : Int) by decide)⟩, trivial⟩ ?_
          exact Rt.weak ((ih _ _ _ _ _ _) hf) ⟨rfl, rfl, rfl, rfl, trivial⟩
      · rw [if_neg h10] at hf
        refine Rt.path ok_M_count 3 [1] rfl ⟨⟨⟨h9, (show ir 6 by decide)⟩, h10⟩, trivial⟩ ?_
        have h17 : 0 ≤ i3 ∧ i3 < 40 := by
          by_cases q : 0 ≤ i3 ∧ i3 < 40
          · exact q
          · rw [if_neg q] at hf; cases hf
        rw [if_pos h17] at hf
        have h18 : ir (rA g 58 i3) := by
          by_cases q : ir (rA g 58 i3)
          · exact q
          · rw [if_neg q] at hf; cases hf
        rw [if_pos h18] at hf
        have h19 : ir (i1 + 2) := by
          by_cases q : ir (i1 + 2)
          · exact q
          · rw [if_neg q] at hf; cases hf
        rw [if_pos h19] at hf
        by_cases h20 : (rA g 58 i3) = (i1 + 2)
        · rw [if_pos h20] at hf
          refine Rt.path ok_M_count 8 [0] rfl ⟨(ix_40 h17), ⟨⟨h18, h19⟩, h20⟩, trivial⟩ ?_
          refine Rt.path ok_M_count 12 [0] rfl ⟨⟨(show ir 1 by decide), (show ¬ (1 : Int) = (0 : Int) by decide)⟩, trivial⟩ ?_
          exact Rt.weak ((ih _ _ _ _ _ _) hf) ⟨rfl, rfl, rfl, rfl, trivial⟩
        · rw [if_neg h20] at hf
          refine Rt.path ok_M_count 8 [1] rfl ⟨(ix_40 h17), ⟨⟨h18, h19⟩, h20⟩, trivial⟩ ?_
          refine Rt.path ok_M_count 8 [1] rfl ⟨⟨(show ir 0 by decide), (show (0 : Int) = (0 : Int) by decide)⟩, trivial⟩ ?_
          exact Rt.weak ((ih _ _ _ _ _ _) hf) ⟨rfl, rfl, rfl, rfl, trivial⟩
    · rw [if_neg h8] at hf
      refine Rt.path ok_M_count 4 [1] rfl ⟨⟨⟨h6, h7⟩, (Int.not_lt.mp h8)⟩, trivial⟩ ?_
      cases hf
      refine Rt.path ok_M_count 1 [] rfl trivial ?_
      exact Rt.retI ok_M_count rfl rfl
def f_M_count_50 (a1 : Int) (g : G2) : Option (Int × G2) :=
  if ir a1 then
  if a1 < 0 then
    some ((-1), g)
  else
    if 6 < a1 then
      some ((-1), g)
    else
      if a1 < 2 then
        (f_M_countNames_50 (a1 + 1) g).bind fun q5 =>
        some (q5.1, q5.2)
      else
        l_M_count_50 20000 0 a1 0 0 g
  else none
set_option maxHeartbeats 4000000 in
set_option maxRecDepth 100000 in
theorem c_M_count_50 (d : Nat) (a1 : Int) (g : G2) (r : Int) (g' : G2) (hf : f_M_count_50 a1 g = some (r, g')) : C2 (d + 1) m_M_count [vR 50, vI a1] g (some (vI r)) g' := by
  unfold f_M_count_50 at hf
  refine C2.of rfl rfl rfl (Nat.le_of_ble_eq_true rfl) ?_
  have h1 : ir a1 := by
    by_cases q : ir a1
    · exact q
    · rw [if_neg q] at hf; cases hf
  rw [if_pos h1] at hf
  by_cases h2 : a1 < 0
  · rw [if_pos h2] at hf
    refine Rt.path ok_M_count 2 [1] rfl ⟨⟨h1, h2⟩, trivial⟩ ?_
    cases hf
    refine Rt.path ok_M_count 1 [] rfl trivial ?_
    exact Rt.retI ok_M_count rfl rfl
  · rw [if_neg h2] at hf
    refine Rt.path ok_M_count 2 [0] rfl ⟨⟨h1, (Int.not_lt.mp h2)⟩, trivial⟩ ?_
    by_cases h3 : 6 < a1
    · rw [if_pos h3] at hf
      refine Rt.path ok_M_count 3 [0] rfl ⟨⟨⟨h1, (show ir 6 by decide)⟩, h3⟩, trivial⟩ ?_
      cases hf
      refine Rt.path ok_M_count 1 [] rfl trivial ?_
      exact Rt.retI ok_M_count rfl rfl
    · rw [if_neg h3] at hf
      refine Rt.path ok_M_count 3 [1] rfl ⟨⟨⟨h1, (show ir 6 by decide)⟩, (Int.not_lt.mp h3)⟩, trivial⟩ ?_
      by_cases h4 : a1 < 2
      · rw [if_pos h4] at hf
        refine Rt.path ok_M_count 3 [0] rfl ⟨⟨⟨h1, (show ir 2 by decide)⟩, h4⟩, trivial⟩ ?_
        obtain ⟨q5, e5, hf⟩ := Option.bind_eq_some_iff.mp hf
        refine Rt.path ok_M_count 4 [] rfl trivial ?_
        refine Rt.callV ok_M_count rfl ml_M_362 [vI _] cf_M_countNames rfl rfl (c_M_countNames_50 d _ _ _ _ e5) (Nat.le_of_ble_eq_true rfl) ?_
        cases hf
        exact Rt.retI ok_M_count rfl rfl
      · rw [if_neg h4] at hf
        refine Rt.path ok_M_count 3 [1] rfl ⟨⟨⟨h1, (show ir 2 by decide)⟩, (Int.not_lt.mp h4)⟩, trivial⟩ ?_
        refine Rt.path ok_M_count 4 [] rfl trivial ?_
        exact Rt.weak ((rl_M_count_50 d _ _ _ _ _ _ _) hf) ⟨rfl, rfl, rfl, rfl, trivial⟩
def f_M_isAssertion_50 (a1 : Int) (g : G2) : Option (Int × G2) :=
  if ir a1 then
  if a1 < 0 then
    some (0, g)
  else
    if ir (rI g 49 27) then
    if a1 < (rI g 49 27) then
      some (1, g)
    else
      some (0, g)
    else none
  else none
set_option maxHeartbeats 4000000 in
set_option maxRecDepth 100000 in
theorem c_M_isAssertion_50 (d : Nat) (a1 : Int) (g : G2) (r : Int) (g' : G2) (hf : f_M_isAssertion_50 a1 g = some (r, g')) : C2 d m_M_isAssertion [vR 50, vI a1] g (some (vI r)) g' := by
  unfold f_M_isAssertion_50 at hf
  refine C2.of rfl rfl rfl (Nat.le_of_ble_eq_true rfl) ?_
  have h1 : ir a1 := by
    by_cases q : ir a1
    · exact q
    · rw [if_neg q] at hf; cases hf
  rw [if_pos h1] at hf
  by_cases h2 : a1 < 0
  · rw [if_pos h2] at hf
    refine Rt.path ok_M_isAssertion 2 [1] rfl ⟨⟨h1, h2⟩, trivial⟩ ?_
    cases hf
    refine Rt.path ok_M_isAssertion 1 [] rfl trivial ?_
    exact Rt.retZ ok_M_isAssertion (show (0 : Int) = 0 ∨ (0 : Int) = 1 by decide) rfl rfl
  · rw [if_neg h2] at hf
    refine Rt.path ok_M_isAssertion 2 [0] rfl ⟨⟨h1, (Int.not_lt.mp h2)⟩, trivial⟩ ?_
    have h3 : ir (rI g 49 27) := by
      by_cases q : ir (rI g 49 27)
      · exact q
      · rw [if_neg q] at hf; cases hf
    rw [if_pos h3] at hf
    by_cases h4 : a1 < (rI g 49 27)
    · rw [if_pos h4] at hf
      refine Rt.path ok_M_isAssertion 4 [0] rfl ⟨⟨⟨h1, h3⟩, h4⟩, trivial⟩ ?_
      cases hf
      refine Rt.path ok_M_isAssertion 2 [] rfl trivial ?_
      exact Rt.retZ ok_M_isAssertion (show (1 : Int) = 0 ∨ (1 : Int) = 1 by decide) rfl rfl
    · rw [if_neg h4] at hf
      refine Rt.path ok_M_isAssertion 4 [1] rfl ⟨⟨⟨h1, h3⟩, (Int.not_lt.mp h4)⟩, trivial⟩ ?_
      cases hf
      refine Rt.path ok_M_isAssertion 1 [] rfl trivial ?_
      exact Rt.retZ ok_M_isAssertion (show (0 : Int) = 0 ∨ (0 : Int) = 1 by decide) rfl rfl
def f_M_label_50 (a1 : Int) (g : G2) : Option (Int64 × G2) :=
  (f_M_isAssertion_50 a1 g).bind fun q1 =>
  if ir q1.1 then
  if q1.1 = 0 then
    some ((Int64.ofNat 18446744073709551615), q1.2)
  else
    if 0 ≤ a1 ∧ a1 < 41 then
    if 0 ≤ (rA q1.2 68 a1) ∧ (rA q1.2 68 a1) < 40 then
    if 0 ≤ (rA q1.2 59 (rA q1.2 68 a1)) ∧ (rA q1.2 59 (rA q1.2 68 a1)) < 60 then
    some ((rB q1.2 53 (rA q1.2 59 (rA q1.2 68 a1))), q1.2)
    else none
    else none
    else none
  else none
set_option maxHeartbeats 4000000 in
set_option maxRecDepth 100000 in
theorem c_M_label_50 (d : Nat) (a1 : Int) (g : G2) (r : Int64) (g' : G2) (hf : f_M_label_50 a1 g = some (r, g')) : C2 (d + 1) m_M_label [vR 50, vI a1] g (some (vL r)) g' := by
  unfold f_M_label_50 at hf
  refine C2.of rfl rfl rfl (Nat.le_of_ble_eq_true rfl) ?_
  obtain ⟨q1, e1, hf⟩ := Option.bind_eq_some_iff.mp hf
  refine Rt.path ok_M_label 2 [] rfl trivial ?_
  refine Rt.callV ok_M_label rfl ml_M_365 [vI _] cf_M_isAssertion rfl rfl (c_M_isAssertion_50 d _ _ _ _ e1) (Nat.le_of_ble_eq_true rfl) ?_
  have h2 : ir q1.1 := by
    by_cases q : ir q1.1
    · exact q
    · rw [if_neg q] at hf; cases hf
  rw [if_pos h2] at hf
  by_cases h3 : q1.1 = 0
  · rw [if_pos h3] at hf
    refine Rt.path ok_M_label 1 [1] rfl ⟨⟨h2, h3⟩, trivial⟩ ?_
    cases hf
    refine Rt.path ok_M_label 1 [] rfl trivial ?_
    exact Rt.retL ok_M_label rfl rfl
  · rw [if_neg h3] at hf
    refine Rt.path ok_M_label 1 [0] rfl ⟨⟨h2, h3⟩, trivial⟩ ?_
    have h4 : 0 ≤ a1 ∧ a1 < 41 := by
      by_cases q : 0 ≤ a1 ∧ a1 < 41
      · exact q
      · rw [if_neg q] at hf; cases hf
    rw [if_pos h4] at hf
    have h5 : 0 ≤ (rA q1.2 68 a1) ∧ (rA q1.2 68 a1) < 40 := by
      by_cases q : 0 ≤ (rA q1.2 68 a1) ∧ (rA q1.2 68 a1) < 40
      · exact q
      · rw [if_neg q] at hf; cases hf
    rw [if_pos h5] at hf
    have h6 : 0 ≤ (rA q1.2 59 (rA q1.2 68 a1)) ∧ (rA q1.2 59 (rA q1.2 68 a1)) < 60 := by
      by_cases q : 0 ≤ (rA q1.2 59 (rA q1.2 68 a1)) ∧ (rA q1.2 59 (rA q1.2 68 a1)) < 60
      · exact q
      · rw [if_neg q] at hf; cases hf
    rw [if_pos h6] at hf
    cases hf
    refine Rt.path ok_M_label 11 [] rfl ⟨(ix_41 h4), (ix_40 h5), (ix_60 h6), trivial⟩ ?_
    exact Rt.retL ok_M_label rfl rfl
def f_M_symbol_50 (a1 : Int) (a2 : Int) (g : G2) : Option (Int64 × G2) :=
  (f_M_isAssertion_50 a1 g).bind fun q1 =>
  if ir q1.1 then
  if q1.1 = 0 then
    some ((Int64.ofNat 18446744073709551615), q1.2)
  else
    if ir a2 then
    if a2 < 0 then
      some ((Int64.ofNat 18446744073709551615), q1.2)
    else
      if 0 ≤ a1 ∧ a1 < 41 then
      if 0 ≤ (rA q1.2 68 a1) ∧ (rA q1.2 68 a1) < 40 then
      if ir (rA q1.2 61 (rA q1.2 68 a1)) then
      if a2 < (rA q1.2 61 (rA q1.2 68 a1)) then
        if 0 ≤ ((24 * (rA q1.2 68 a1)) + a2) ∧ ((24 * (rA q1.2 68 a1)) + a2) < 960 then
        if 0 ≤ (rA q1.2 60 ((24 * (rA q1.2 68 a1)) + a2)) ∧ (rA q1.2 60 ((24 * (rA q1.2 68 a1)) + a2)) < 60 then
        some ((rB q1.2 53 (rA q1.2 60 ((24 * (rA q1.2 68 a1)) + a2))), q1.2)
        else none
        else none
      else
        some ((Int64.ofNat 18446744073709551615), q1.2)
      else none
      else none
      else none
    else none
  else none
set_option maxHeartbeats 4000000 in
set_option maxRecDepth 100000 in
theorem c_M_symbol_50 (d : Nat) (a1 : Int) (a2 : Int) (g : G2) (r : Int64) (g' : G2) (hf : f_M_symbol_50 a1 a2 g = some (r, g')) : C2 (d + 1) m_M_symbol [vR 50, vI a1, vI a2] g (some (vL r)) g' := by
  unfold f_M_symbol_50 at hf
  refine C2.of rfl rfl rfl (Nat.le_of_ble_eq_true rfl) ?_
  obtain ⟨q1, e1, hf⟩ := Option.bind_eq_some_iff.mp hf
  refine Rt.path ok_M_symbol 2 [] rfl trivial ?_
  refine Rt.callV ok_M_symbol rfl ml_M_365 [vI _] cf_M_isAssertion rfl rfl (c_M_isAssertion_50 d _ _ _ _ e1) (Nat.le_of_ble_eq_true rfl) ?_
  have h2 : ir q1.1 := by
    by_cases q : ir q1.1
    · exact q
    · rw [if_neg q] at hf; cases hf
  rw [if_pos h2] at hf
  by_cases h3 : q1.1 = 0
  · rw [if_pos h3] at hf
    refine Rt.path ok_M_symbol 1 [1] rfl ⟨⟨h2, h3⟩, trivial⟩ ?_
    cases hf
    refine Rt.path ok_M_symbol 1 [] rfl trivial ?_
    exact Rt.retL ok_M_symbol rfl rfl
  · rw [if_neg h3] at hf
    refine Rt.path ok_M_symbol 1 [0] rfl ⟨⟨h2, h3⟩, trivial⟩ ?_
    have h4 : ir a2 := by
      by_cases q : ir a2
      · exact q
      · rw [if_neg q] at hf; cases hf
    rw [if_pos h4] at hf
    by_cases h5 : a2 < 0
    · rw [if_pos h5] at hf
      refine Rt.path ok_M_symbol 2 [1] rfl ⟨⟨h4, h5⟩, trivial⟩ ?_
      cases hf
      refine Rt.path ok_M_symbol 1 [] rfl trivial ?_
      exact Rt.retL ok_M_symbol rfl rfl
    · rw [if_neg h5] at hf
      refine Rt.path ok_M_symbol 2 [0] rfl ⟨⟨h4, (Int.not_lt.mp h5)⟩, trivial⟩ ?_
      have h6 : 0 ≤ a1 ∧ a1 < 41 := by
        by_cases q : 0 ≤ a1 ∧ a1 < 41
        · exact q
        · rw [if_neg q] at hf; cases hf
      rw [if_pos h6] at hf
      have h7 : 0 ≤ (rA q1.2 68 a1) ∧ (rA q1.2 68 a1) < 40 := by
        by_cases q : 0 ≤ (rA q1.2 68 a1) ∧ (rA q1.2 68 a1) < 40
        · exact q
        · rw [if_neg q] at hf; cases hf
      rw [if_pos h7] at hf
      have h8 : ir (rA q1.2 61 (rA q1.2 68 a1)) := by
        by_cases q : ir (rA q1.2 61 (rA q1.2 68 a1))
        · exact q
        · rw [if_neg q] at hf; cases hf
      rw [if_pos h8] at hf
      by_cases h9 : a2 < (rA q1.2 61 (rA q1.2 68 a1))
      · rw [if_pos h9] at hf
        refine Rt.path ok_M_symbol 9 [1] rfl ⟨(ix_41 h6), (ix_40 h7), ⟨⟨h4, h8⟩, h9⟩, trivial⟩ ?_
        have h10 : 0 ≤ ((24 * (rA q1.2 68 a1)) + a2) ∧ ((24 * (rA q1.2 68 a1)) + a2) < 960 := by
          by_cases q : 0 ≤ ((24 * (rA q1.2 68 a1)) + a2) ∧ ((24 * (rA q1.2 68 a1)) + a2) < 960
          · exact q
          · rw [if_neg q] at hf; cases hf
        rw [if_pos h10] at hf
        have h11 : 0 ≤ (rA q1.2 60 ((24 * (rA q1.2 68 a1)) + a2)) ∧ (rA q1.2 60 ((24 * (rA q1.2 68 a1)) + a2)) < 60 := by
          by_cases q : 0 ≤ (rA q1.2 60 ((24 * (rA q1.2 68 a1)) + a2)) ∧ (rA q1.2 60 ((24 * (rA q1.2 68 a1)) + a2)) < 60
          · exact q
          · rw [if_neg q] at hf; cases hf
        rw [if_pos h11] at hf
        cases hf
        refine Rt.path ok_M_symbol 14 [] rfl ⟨(ix_41 h6), (ix_960 h10), (ix_60 h11), trivial⟩ ?_
        exact Rt.retL ok_M_symbol rfl rfl
      · rw [if_neg h9] at hf
        refine Rt.path ok_M_symbol 9 [0] rfl ⟨(ix_41 h6), (ix_40 h7), ⟨⟨h4, h8⟩, (Int.not_lt.mp h9)⟩, trivial⟩ ?_
        cases hf
        refine Rt.path ok_M_symbol 1 [] rfl trivial ?_
        exact Rt.retL ok_M_symbol rfl rfl
def f_M_hypothesis_50 (a1 : Int) (a2 : Int) (g : G2) : Option (Int64 × G2) :=
  (f_M_isAssertion_50 a1 g).bind fun q1 =>
  if ir q1.1 then
  if q1.1 = 0 then
    some ((Int64.ofNat 18446744073709551615), q1.2)
  else
    if ir a2 then
    if a2 < 0 then
      some ((Int64.ofNat 18446744073709551615), q1.2)
    else
      if 0 ≤ a1 ∧ a1 < 41 then
      if ir (rA q1.2 70 a1) then
      if a2 < (rA q1.2 70 a1) then
        if 0 ≤ ((40 * a1) + a2) ∧ ((40 * a1) + a2) < 1640 then
        if 0 ≤ (rA q1.2 69 ((40 * a1) + a2)) ∧ (rA q1.2 69 ((40 * a1) + a2)) < 40 then
        if 0 ≤ (rA q1.2 59 (rA q1.2 69 ((40 * a1) + a2))) ∧ (rA q1.2 59 (rA q1.2 69 ((40 * a1) + a2))) < 60 then
        some ((rB q1.2 53 (rA q1.2 59 (rA q1.2 69 ((40 * a1) + a2)))), q1.2)
        else none
        else none
        else none
      else
        some ((Int64.ofNat 18446744073709551615), q1.2)
      else none
      else none
    else none
  else none
set_option maxHeartbeats 4000000 in
set_option maxRecDepth 100000 in
theorem c_M_hypothesis_50 (d : Nat) (a1 : Int) (a2 : Int) (g : G2) (r : Int64) (g' : G2) (hf : f_M_hypothesis_50 a1 a2 g = some (r, g')) : C2 (d + 1) m_M_hypothesis [vR 50, vI a1, vI a2] g (some (vL r)) g' := by
  unfold f_M_hypothesis_50 at hf
  refine C2.of rfl rfl rfl (Nat.le_of_ble_eq_true rfl) ?_
  obtain ⟨q1, e1, hf⟩ := Option.bind_eq_some_iff.mp hf
  refine Rt.path ok_M_hypothesis 2 [] rfl trivial ?_
  refine Rt.callV ok_M_hypothesis rfl ml_M_365 [vI _] cf_M_isAssertion rfl rfl (c_M_isAssertion_50 d _ _ _ _ e1) (Nat.le_of_ble_eq_true rfl) ?_
  have h2 : ir q1.1 := by
    by_cases q : ir q1.1
    · exact q
    · rw [if_neg q] at hf; cases hf
  rw [if_pos h2] at hf
  by_cases h3 : q1.1 = 0
  · rw [if_pos h3] at hf
    refine Rt.path ok_M_hypothesis 1 [1] rfl ⟨⟨h2, h3⟩, trivial⟩ ?_
    cases hf
    refine Rt.path ok_M_hypothesis 1 [] rfl trivial ?_
    exact Rt.retL ok_M_hypothesis rfl rfl
  · rw [if_neg h3] at hf
    refine Rt.path ok_M_hypothesis 1 [0] rfl ⟨⟨h2, h3⟩, trivial⟩ ?_
    have h4 : ir a2 := by
      by_cases q : ir a2
      · exact q
      · rw [if_neg q] at hf; cases hf
    rw [if_pos h4] at hf
    by_cases h5 : a2 < 0
    · rw [if_pos h5] at hf
      refine Rt.path ok_M_hypothesis 2 [1] rfl ⟨⟨h4, h5⟩, trivial⟩ ?_
      cases hf
      refine Rt.path ok_M_hypothesis 1 [] rfl trivial ?_
      exact Rt.retL ok_M_hypothesis rfl rfl
    · rw [if_neg h5] at hf
      refine Rt.path ok_M_hypothesis 2 [0] rfl ⟨⟨h4, (Int.not_lt.mp h5)⟩, trivial⟩ ?_
      have h6 : 0 ≤ a1 ∧ a1 < 41 := by
        by_cases q : 0 ≤ a1 ∧ a1 < 41
        · exact q
        · rw [if_neg q] at hf; cases hf
      rw [if_pos h6] at hf
      have h7 : ir (rA q1.2 70 a1) := by
        by_cases q : ir (rA q1.2 70 a1)
        · exact q
        · rw [if_neg q] at hf; cases hf
      rw [if_pos h7] at hf
      by_cases h8 : a2 < (rA q1.2 70 a1)
      · rw [if_pos h8] at hf
        refine Rt.path ok_M_hypothesis 6 [1] rfl ⟨(ix_41 h6), ⟨⟨h4, h7⟩, h8⟩, trivial⟩ ?_
        have h9 : 0 ≤ ((40 * a1) + a2) ∧ ((40 * a1) + a2) < 1640 := by
          by_cases q : 0 ≤ ((40 * a1) + a2) ∧ ((40 * a1) + a2) < 1640
          · exact q
          · rw [if_neg q] at hf; cases hf
        rw [if_pos h9] at hf
        have h10 : 0 ≤ (rA q1.2 69 ((40 * a1) + a2)) ∧ (rA q1.2 69 ((40 * a1) + a2)) < 40 := by
          by_cases q : 0 ≤ (rA q1.2 69 ((40 * a1) + a2)) ∧ (rA q1.2 69 ((40 * a1) + a2)) < 40
          · exact q
          · rw [if_neg q] at hf; cases hf
        rw [if_pos h10] at hf
        have h11 : 0 ≤ (rA q1.2 59 (rA q1.2 69 ((40 * a1) + a2))) ∧ (rA q1.2 59 (rA q1.2 69 ((40 * a1) + a2))) < 60 := by
          by_cases q : 0 ≤ (rA q1.2 59 (rA q1.2 69 ((40 * a1) + a2))) ∧ (rA q1.2 59 (rA q1.2 69 ((40 * a1) + a2))) < 60
          · exact q
          · rw [if_neg q] at hf; cases hf
        rw [if_pos h11] at hf
        cases hf
        refine Rt.path ok_M_hypothesis 14 [] rfl ⟨(ix_1640 h9), (ix_40 h10), (ix_60 h11), trivial⟩ ?_
        exact Rt.retL ok_M_hypothesis rfl rfl
      · rw [if_neg h8] at hf
        refine Rt.path ok_M_hypothesis 6 [0] rfl ⟨(ix_41 h6), ⟨⟨h4, h7⟩, (Int.not_lt.mp h8)⟩, trivial⟩ ?_
        cases hf
        refine Rt.path ok_M_hypothesis 1 [] rfl trivial ?_
        exact Rt.retL ok_M_hypothesis rfl rfl
def f_M_pairs_50 (a1 : Int) (g : G2) : Option (Int × G2) :=
  (f_M_isAssertion_50 a1 g).bind fun q1 =>
  if ir q1.1 then
  if q1.1 = 0 then
    some ((-1), q1.2)
  else
    if 0 ≤ a1 ∧ a1 < 41 then
    some ((rA q1.2 73 a1), q1.2)
    else none
  else none
set_option maxHeartbeats 4000000 in
set_option maxRecDepth 100000 in
theorem c_M_pairs_50 (d : Nat) (a1 : Int) (g : G2) (r : Int) (g' : G2) (hf : f_M_pairs_50 a1 g = some (r, g')) : C2 (d + 1) m_M_pairs [vR 50, vI a1] g (some (vI r)) g' := by
  unfold f_M_pairs_50 at hf
  refine C2.of rfl rfl rfl (Nat.le_of_ble_eq_true rfl) ?_
  obtain ⟨q1, e1, hf⟩ := Option.bind_eq_some_iff.mp hf
  refine Rt.path ok_M_pairs 2 [] rfl trivial ?_
  refine Rt.callV ok_M_pairs rfl ml_M_365 [vI _] cf_M_isAssertion rfl rfl (c_M_isAssertion_50 d _ _ _ _ e1) (Nat.le_of_ble_eq_true rfl) ?_
  have h2 : ir q1.1 := by
    by_cases q : ir q1.1
    · exact q
    · rw [if_neg q] at hf; cases hf
  rw [if_pos h2] at hf
  by_cases h3 : q1.1 = 0
  · rw [if_pos h3] at hf
    refine Rt.path ok_M_pairs 1 [1] rfl ⟨⟨h2, h3⟩, trivial⟩ ?_
    cases hf
    refine Rt.path ok_M_pairs 1 [] rfl trivial ?_
    exact Rt.retI ok_M_pairs rfl rfl
  · rw [if_neg h3] at hf
    refine Rt.path ok_M_pairs 1 [0] rfl ⟨⟨h2, h3⟩, trivial⟩ ?_
    have h4 : 0 ≤ a1 ∧ a1 < 41 := by
      by_cases q : 0 ≤ a1 ∧ a1 < 41
      · exact q
      · rw [if_neg q] at hf; cases hf
    rw [if_pos h4] at hf
    cases hf
    refine Rt.path ok_M_pairs 5 [] rfl ⟨(ix_41 h4), trivial⟩ ?_
    exact Rt.retI ok_M_pairs rfl rfl
def f_M_apart_50 (a1 : Int) (a2 : Int64) (a4 : Int64) (g : G2) : Option (Int × G2) :=
  (f_M_find_50 a2 g).bind fun q1 =>
  (f_M_find_50 a4 q1.2).bind fun q2 =>
  (f_M_isAssertion_50 a1 q2.2).bind fun q3 =>
  if ir q3.1 then
  if q3.1 = 0 then
    some (0, q3.2)
  else
    if ir q1.1 then
    if q1.1 < 0 then
      some (0, q3.2)
    else
      if ir q2.1 then
      if q2.1 < 0 then
        some (0, q3.2)
      else
        (f_M_isNeeded_50 a1 q1.1 q2.1 q3.2).bind fun q10 =>
        if ir q10.1 then
        if q10.1 = 0 then
          some (0, q10.2)
        else
          some (1, q10.2)
        else none
      else none
    else none
  else none
set_option maxHeartbeats 4000000 in
set_option maxRecDepth 100000 in
theorem c_M_apart_50 (d : Nat) (a1 : Int) (a2 : Int64) (a4 : Int64) (g : G2) (r : Int) (g' : G2) (hf : f_M_apart_50 a1 a2 a4 g = some (r, g')) : C2 (d + 1) m_M_apart [vR 50, vI a1, vL a2, vL a4] g (some (vI r)) g' := by
  unfold f_M_apart_50 at hf
  refine C2.of rfl rfl rfl (Nat.le_of_ble_eq_true rfl) ?_
  obtain ⟨q1, e1, hf⟩ := Option.bind_eq_some_iff.mp hf
  refine Rt.path ok_M_apart 2 [] rfl trivial ?_
  refine Rt.callV ok_M_apart rfl ml_M_180 [vL _] cf_M_find rfl rfl (c_M_find_50 d _ _ _ _ e1) (Nat.le_of_ble_eq_true rfl) ?_
  obtain ⟨q2, e2, hf⟩ := Option.bind_eq_some_iff.mp hf
  refine Rt.path ok_M_apart 3 [] rfl trivial ?_
  refine Rt.callV ok_M_apart rfl ml_M_180 [vL _] cf_M_find rfl rfl (c_M_find_50 d _ _ _ _ e2) (Nat.le_of_ble_eq_true rfl) ?_
  obtain ⟨q3, e3, hf⟩ := Option.bind_eq_some_iff.mp hf
  refine Rt.path ok_M_apart 3 [] rfl trivial ?_
  refine Rt.callV ok_M_apart rfl ml_M_365 [vI _] cf_M_isAssertion rfl rfl (c_M_isAssertion_50 d _ _ _ _ e3) (Nat.le_of_ble_eq_true rfl) ?_
  have h4 : ir q3.1 := by
    by_cases q : ir q3.1
    · exact q
    · rw [if_neg q] at hf; cases hf
  rw [if_pos h4] at hf
  by_cases h5 : q3.1 = 0
  · rw [if_pos h5] at hf
    refine Rt.path ok_M_apart 1 [1] rfl ⟨⟨h4, h5⟩, trivial⟩ ?_
    cases hf
    refine Rt.path ok_M_apart 1 [] rfl trivial ?_
    exact Rt.retZ ok_M_apart (show (0 : Int) = 0 ∨ (0 : Int) = 1 by decide) rfl rfl
  · rw [if_neg h5] at hf
    refine Rt.path ok_M_apart 1 [0] rfl ⟨⟨h4, h5⟩, trivial⟩ ?_
    have h6 : ir q1.1 := by
      by_cases q : ir q1.1
      · exact q
      · rw [if_neg q] at hf; cases hf
    rw [if_pos h6] at hf
    by_cases h7 : q1.1 < 0
    · rw [if_pos h7] at hf
      refine Rt.path ok_M_apart 2 [1] rfl ⟨⟨h6, h7⟩, trivial⟩ ?_
      cases hf
      refine Rt.path ok_M_apart 1 [] rfl trivial ?_
      exact Rt.retZ ok_M_apart (show (0 : Int) = 0 ∨ (0 : Int) = 1 by decide) rfl rfl
    · rw [if_neg h7] at hf
      refine Rt.path ok_M_apart 2 [0] rfl ⟨⟨h6, (Int.not_lt.mp h7)⟩, trivial⟩ ?_
      have h8 : ir q2.1 := by
        by_cases q : ir q2.1
        · exact q
        · rw [if_neg q] at hf; cases hf
      rw [if_pos h8] at hf
      by_cases h9 : q2.1 < 0
      · rw [if_pos h9] at hf
        refine Rt.path ok_M_apart 2 [1] rfl ⟨⟨h8, h9⟩, trivial⟩ ?_
        cases hf
        refine Rt.path ok_M_apart 1 [] rfl trivial ?_
        exact Rt.retZ ok_M_apart (show (0 : Int) = 0 ∨ (0 : Int) = 1 by decide) rfl rfl
      · rw [if_neg h9] at hf
        refine Rt.path ok_M_apart 2 [0] rfl ⟨⟨h8, (Int.not_lt.mp h9)⟩, trivial⟩ ?_
        obtain ⟨q10, e10, hf⟩ := Option.bind_eq_some_iff.mp hf
        refine Rt.path ok_M_apart 4 [] rfl trivial ?_
        refine Rt.callV ok_M_apart rfl ml_M_233 [vI _, vI _, vI _] cf_M_isNeeded rfl rfl (c_M_isNeeded_50 d _ _ _ _ _ _ e10) (Nat.le_of_ble_eq_true rfl) ?_
        have h11 : ir q10.1 := by
          by_cases q : ir q10.1
          · exact q
          · rw [if_neg q] at hf; cases hf
        rw [if_pos h11] at hf
        by_cases h12 : q10.1 = 0
        · rw [if_pos h12] at hf
          refine Rt.path ok_M_apart 1 [1] rfl ⟨⟨h11, h12⟩, trivial⟩ ?_
          cases hf
          refine Rt.path ok_M_apart 1 [] rfl trivial ?_
          exact Rt.retZ ok_M_apart (show (0 : Int) = 0 ∨ (0 : Int) = 1 by decide) rfl rfl
        · rw [if_neg h12] at hf
          refine Rt.path ok_M_apart 1 [0] rfl ⟨⟨h11, h12⟩, trivial⟩ ?_
          cases hf
          refine Rt.path ok_M_apart 2 [] rfl trivial ?_
          exact Rt.retZ ok_M_apart (show (1 : Int) = 0 ∨ (1 : Int) = 1 by decide) rfl rfl
def f_M_steps_50 (a1 : Int) (g : G2) : Option (Int × G2) :=
  (f_M_isAssertion_50 a1 g).bind fun q1 =>
  if ir q1.1 then
  if q1.1 = 0 then
    some ((-1), q1.2)
  else
    if 0 ≤ a1 ∧ a1 < 41 then
    some ((rA q1.2 74 a1), q1.2)
    else none
  else none
set_option maxHeartbeats 4000000 in
set_option maxRecDepth 100000 in
theorem c_M_steps_50 (d : Nat) (a1 : Int) (g : G2) (r : Int) (g' : G2) (hf : f_M_steps_50 a1 g = some (r, g')) : C2 (d + 1) m_M_steps [vR 50, vI a1] g (some (vI r)) g' := by
  unfold f_M_steps_50 at hf
  refine C2.of rfl rfl rfl (Nat.le_of_ble_eq_true rfl) ?_
  obtain ⟨q1, e1, hf⟩ := Option.bind_eq_some_iff.mp hf
  refine Rt.path ok_M_steps 2 [] rfl trivial ?_
  refine Rt.callV ok_M_steps rfl ml_M_365 [vI _] cf_M_isAssertion rfl rfl (c_M_isAssertion_50 d _ _ _ _ e1) (Nat.le_of_ble_eq_true rfl) ?_
  have h2 : ir q1.1 := by
    by_cases q : ir q1.1
    · exact q
    · rw [if_neg q] at hf; cases hf
  rw [if_pos h2] at hf
  by_cases h3 : q1.1 = 0
  · rw [if_pos h3] at hf
    refine Rt.path ok_M_steps 1 [1] rfl ⟨⟨h2, h3⟩, trivial⟩ ?_
    cases hf
    refine Rt.path ok_M_steps 1 [] rfl trivial ?_
    exact Rt.retI ok_M_steps rfl rfl
  · rw [if_neg h3] at hf
    refine Rt.path ok_M_steps 1 [0] rfl ⟨⟨h2, h3⟩, trivial⟩ ?_
    have h4 : 0 ≤ a1 ∧ a1 < 41 := by
      by_cases q : 0 ≤ a1 ∧ a1 < 41
      · exact q
      · rw [if_neg q] at hf; cases hf
    rw [if_pos h4] at hf
    cases hf
    refine Rt.path ok_M_steps 5 [] rfl ⟨(ix_41 h4), trivial⟩ ?_
    exact Rt.retI ok_M_steps rfl rfl
def f_M_depth_50 (a1 : Int) (g : G2) : Option (Int × G2) :=
  (f_M_isAssertion_50 a1 g).bind fun q1 =>
  if ir q1.1 then
  if q1.1 = 0 then
    some ((-1), q1.2)
  else
    if 0 ≤ a1 ∧ a1 < 41 then
    some ((rA q1.2 75 a1), q1.2)
    else none
  else none
set_option maxHeartbeats 4000000 in
set_option maxRecDepth 100000 in
theorem c_M_depth_50 (d : Nat) (a1 : Int) (g : G2) (r : Int) (g' : G2) (hf : f_M_depth_50 a1 g = some (r, g')) : C2 (d + 1) m_M_depth [vR 50, vI a1] g (some (vI r)) g' := by
  unfold f_M_depth_50 at hf
  refine C2.of rfl rfl rfl (Nat.le_of_ble_eq_true rfl) ?_
  obtain ⟨q1, e1, hf⟩ := Option.bind_eq_some_iff.mp hf
  refine Rt.path ok_M_depth 2 [] rfl trivial ?_
  refine Rt.callV ok_M_depth rfl ml_M_365 [vI _] cf_M_isAssertion rfl rfl (c_M_isAssertion_50 d _ _ _ _ e1) (Nat.le_of_ble_eq_true rfl) ?_
  have h2 : ir q1.1 := by
    by_cases q : ir q1.1
    · exact q
    · rw [if_neg q] at hf; cases hf
  rw [if_pos h2] at hf
  by_cases h3 : q1.1 = 0
  · rw [if_pos h3] at hf
    refine Rt.path ok_M_depth 1 [1] rfl ⟨⟨h2, h3⟩, trivial⟩ ?_
    cases hf
    refine Rt.path ok_M_depth 1 [] rfl trivial ?_
    exact Rt.retI ok_M_depth rfl rfl
  · rw [if_neg h3] at hf
    refine Rt.path ok_M_depth 1 [0] rfl ⟨⟨h2, h3⟩, trivial⟩ ?_
    have h4 : 0 ≤ a1 ∧ a1 < 41 := by
      by_cases q : 0 ≤ a1 ∧ a1 < 41
      · exact q
      · rw [if_neg q] at hf; cases hf
    rw [if_pos h4] at hf
    cases hf
    refine Rt.path ok_M_depth 5 [] rfl ⟨(ix_41 h4), trivial⟩ ?_
    exact Rt.retI ok_M_depth rfl rfl
def f_M_uses_50 (a1 : Int) (a2 : Int) (g : G2) : Option (Int × G2) :=
  (f_M_isAssertion_50 a1 g).bind fun q1 =>
  if ir q1.1 then
  if q1.1 = 0 then
    some ((-1), q1.2)
  else
    (f_M_isAssertion_50 a2 q1.2).bind fun q4 =>
    if ir q4.1 then
    if q4.1 = 0 then
      some (0, q4.2)
    else
      if 0 ≤ ((40 * a1) + a2) ∧ ((40 * a1) + a2) < 1640 then
      some ((rA q4.2 76 ((40 * a1) + a2)), q4.2)
      else none
    else none
  else none
set_option maxHeartbeats 4000000 in
set_option maxRecDepth 100000 in
theorem c_M_uses_50 (d : Nat) (a1 : Int) (a2 : Int) (g : G2) (r : Int) (g' : G2) (hf : f_M_uses_50 a1 a2 g = some (r, g')) : C2 (d + 1) m_M_uses [vR 50, vI a1, vI a2] g (some (vI r)) g' := by
  unfold f_M_uses_50 at hf
  refine C2.of rfl rfl rfl (Nat.le_of_ble_eq_true rfl) ?_
  obtain ⟨q1, e1, hf⟩ := Option.bind_eq_some_iff.mp hf
  refine Rt.path ok_M_uses 2 [] rfl trivial ?_
  refine Rt.callV ok_M_uses rfl ml_M_365 [vI _] cf_M_isAssertion rfl rfl (c_M_isAssertion_50 d _ _ _ _ e1) (Nat.le_of_ble_eq_true rfl) ?_
  have h2 : ir q1.1 := by
    by_cases q : ir q1.1
    · exact q
    · rw [if_neg q] at hf; cases hf
  rw [if_pos h2] at hf
  by_cases h3 : q1.1 = 0
  · rw [if_pos h3] at hf
    refine Rt.path ok_M_uses 1 [0] rfl ⟨⟨h2, h3⟩, trivial⟩ ?_
    cases hf
    refine Rt.path ok_M_uses 2 [] rfl trivial ?_
    exact Rt.retI ok_M_uses rfl rfl
  · rw [if_neg h3] at hf
    refine Rt.path ok_M_uses 1 [1] rfl ⟨⟨h2, h3⟩, trivial⟩ ?_
    obtain ⟨q4, e4, hf⟩ := Option.bind_eq_some_iff.mp hf
    refine Rt.path ok_M_uses 2 [] rfl trivial ?_
    refine Rt.callV ok_M_uses rfl ml_M_365 [vI _] cf_M_isAssertion rfl rfl (c_M_isAssertion_50 d _ _ _ _ e4) (Nat.le_of_ble_eq_true rfl) ?_
    have h5 : ir q4.1 := by
      by_cases q : ir q4.1
      · exact q
      · rw [if_neg q] at hf; cases hf
    rw [if_pos h5] at hf
    by_cases h6 : q4.1 = 0
    · rw [if_pos h6] at hf
      refine Rt.path ok_M_uses 1 [1] rfl ⟨⟨h5, h6⟩, trivial⟩ ?_
      cases hf
      refine Rt.path ok_M_uses 1 [] rfl trivial ?_
      exact Rt.retI ok_M_uses rfl rfl
    · rw [if_neg h6] at hf
      refine Rt.path ok_M_uses 1 [0] rfl ⟨⟨h5, h6⟩, trivial⟩ ?_
      have h7 : 0 ≤ ((40 * a1) + a2) ∧ ((40 * a1) + a2) < 1640 := by
        by_cases q : 0 ≤ ((40 * a1) + a2) ∧ ((40 * a1) + a2) < 1640
        · exact q
        · rw [if_neg q] at hf; cases hf
      rw [if_pos h7] at hf
      cases hf
      refine Rt.path ok_M_uses 9 [] rfl ⟨(ix_1640 h7), trivial⟩ ?_
      exact Rt.retI ok_M_uses rfl rfl
def f_M_proved_50 (a1 : Int) (g : G2) : Option (Int × G2) :=
  (f_M_isAssertion_50 a1 g).bind fun q1 =>
  if ir q1.1 then
  if q1.1 = 0 then
    some (0, q1.2)
  else
    if 0 ≤ a1 ∧ a1 < 41 then
    if ir (rA q1.2 78 a1) then
    if (rA q1.2 78 a1) = 0 then
      some (0, q1.2)
    else
      some (1, q1.2)
    else none
    else none
  else none
set_option maxHeartbeats 4000000 in
set_option maxRecDepth 100000 in
theorem c_M_proved_50 (d : Nat) (a1 : Int) (g : G2) (r : Int) (g' : G2) (hf : f_M_proved_50 a1 g = some (r, g')) : C2 (d + 1) m_M_proved [vR 50, vI a1] g (some (vI r)) g' := by
  unfold f_M_proved_50 at hf
  refine C2.of rfl rfl rfl (Nat.le_of_ble_eq_true rfl) ?_
  obtain ⟨q1, e1, hf⟩ := Option.bind_eq_some_iff.mp hf
  refine Rt.path ok_M_proved 2 [] rfl trivial ?_
  refine Rt.callV ok_M_proved rfl ml_M_365 [vI _] cf_M_isAssertion rfl rfl (c_M_isAssertion_50 d _ _ _ _ e1) (Nat.le_of_ble_eq_true rfl) ?_
  have h2 : ir q1.1 := by
    by_cases q : ir q1.1
    · exact q
    · rw [if_neg q] at hf; cases hf
  rw [if_pos h2] at hf
  by_cases h3 : q1.1 = 0
  · rw [if_pos h3] at hf
    refine Rt.path ok_M_proved 1 [1] rfl ⟨⟨h2, h3⟩, trivial⟩ ?_
    cases hf
    refine Rt.path ok_M_proved 1 [] rfl trivial ?_
    exact Rt.retZ ok_M_proved (show (0 : Int) = 0 ∨ (0 : Int) = 1 by decide) rfl rfl
  · rw [if_neg h3] at hf
    refine Rt.path ok_M_proved 1 [0] rfl ⟨⟨h2, h3⟩, trivial⟩ ?_
    have h4 : 0 ≤ a1 ∧ a1 < 41 := by
      by_cases q : 0 ≤ a1 ∧ a1 < 41
      · exact q
      · rw [if_neg q] at hf; cases hf
    rw [if_pos h4] at hf
    have h5 : ir (rA q1.2 78 a1) := by
      by_cases q : ir (rA q1.2 78 a1)
      · exact q
      · rw [if_neg q] at hf; cases hf
    rw [if_pos h5] at hf
    by_cases h6 : (rA q1.2 78 a1) = 0
    · rw [if_pos h6] at hf
      refine Rt.path ok_M_proved 5 [1] rfl ⟨(ix_41 h4), ⟨h5, h6⟩, trivial⟩ ?_
      cases hf
      refine Rt.path ok_M_proved 1 [] rfl trivial ?_
      exact Rt.retZ ok_M_proved (show (0 : Int) = 0 ∨ (0 : Int) = 1 by decide) rfl rfl
    · rw [if_neg h6] at hf
      refine Rt.path ok_M_proved 5 [0] rfl ⟨(ix_41 h4), ⟨h5, h6⟩, trivial⟩ ?_
      cases hf
      refine Rt.path ok_M_proved 2 [] rfl trivial ?_
      exact Rt.retZ ok_M_proved (show (1 : Int) = 0 ∨ (1 : Int) = 1 by decide) rfl rfl
