def b_M_readLetters_50_0 (L : Nat → Int → Int → G2 → Option (G2)) (i1 : Int) (i3 : Int) (g : G2) : Option (G2) :=
  if ir (rI g 49 6) then
  if (rI g 49 6) = 0 then
    (f_M_need_50 g).bind fun q3 =>
    if ir q3.1 then
    if q3.1 = 9 then
      if ir (rI q3.2 49 55) then
      if (rI q3.2 49 55) = 0 then
        L 1 0 0 q3.2
      else
        (f_M_fail_50 (-8) (rI q3.2 49 5) q3.2).bind fun q8 =>
        L 1 0 0 q8
      else none
    else
      if q3.1 = 0 then
        (f_M_isLetters_50 q3.2).bind fun q10 =>
        if ir q10.1 then
        if q10.1 = 0 then
          L 2 i1 0 q10.2
        else
          L 3 i1 0 q10.2
        else none
      else
        L 2 i1 0 q3.2
    else none
  else
    some g
  else none
def b_M_readLetters_50_1 (L : Nat → Int → Int → G2 → Option (G2)) (i1 : Int) (i3 : Int) (g : G2) : Option (G2) :=
  some g
def b_M_readLetters_50_2 (L : Nat → Int → Int → G2 → Option (G2)) (i1 : Int) (i3 : Int) (g : G2) : Option (G2) :=
  (f_M_fail_50 (-3) (rI g 49 5) g).bind fun q13 =>
  L 3 i1 0 q13
def b_M_readLetters_50_3 (L : Nat → Int → Int → G2 → Option (G2)) (i1 : Int) (i3 : Int) (g : G2) : Option (G2) :=
  L 4 i1 0 g
def b_M_readLetters_50_4 (L : Nat → Int → Int → G2 → Option (G2)) (i1 : Int) (i3 : Int) (g : G2) : Option (G2) :=
  if ir (rI g 49 6) then
  if (rI g 49 6) = 0 then
    if 0 ≤ (rI g 49 5) ∧ (rI g 49 5) < 801 then
    if ir i3 then
    if ir (rA g 52 (rI g 49 5)) then
    if i3 < (rA g 52 (rI g 49 5)) then
      (f_M_letter_50 (rI g 49 5) i3 g).bind fun q20 =>
      (f_M_readLetter_50 i1 q20.1 q20.2).bind fun q21 =>
      L 4 i1 (i3 + 1) q21
    else
      L 5 i1 0 g
    else none
    else none
    else none
  else
    L 5 i1 0 g
  else none
def b_M_readLetters_50_5 (L : Nat → Int → Int → G2 → Option (G2)) (i1 : Int) (i3 : Int) (g : G2) : Option (G2) :=
  L 0 i1 0 (gI g 49 5 ((rI g 49 5) + 1))
def l_M_readLetters_50 : Nat → Nat → Int → Int → G2 → Option (G2)
  | 0 => fun _ _ _ _ => none
  | n + 1 => fun t i1 i3 g => match t with
    | 0 => b_M_readLetters_50_0 (l_M_readLetters_50 n) i1 i3 g
    | 1 => b_M_readLetters_50_1 (l_M_readLetters_50 n) i1 i3 g
    | 2 => b_M_readLetters_50_2 (l_M_readLetters_50 n) i1 i3 g
    | 3 => b_M_readLetters_50_3 (l_M_readLetters_50 n) i1 i3 g
    | 4 => b_M_readLetters_50_4 (l_M_readLetters_50 n) i1 i3 g
    | _ => b_M_readLetters_50_5 (l_M_readLetters_50 n) i1 i3 g
set_option maxHeartbeats 4000000 in
set_option maxRecDepth 100000 in
theorem rl_M_readLetters_50 (d : Nat) : ∀ (n : Nat) (i1 : Int) (i3 : Int) (g : G2) (g' : G2), (l_M_readLetters_50 n 0 i1 i3 g = some g' → Rt (d + 6) m_M_readLetters 15 [some (vR 50), some (vI i1), none, none] [] g none g') ∧ (l_M_readLetters_50 n 1 i1 i3 g = some g' → Rt (d + 6) m_M_readLetters 50 [none, none, none, none] [] g none g') ∧ (l_M_readLetters_50 n 2 i1 i3 g = some g' → Rt (d + 6) m_M_readLetters 62 [some (vR 50), some (vI i1), none, none] [] g none g') ∧ (l_M_readLetters_50 n 3 i1 i3 g = some g' → Rt (d + 6) m_M_readLetters 72 [some (vR 50), some (vI i1), none, none] [] g none g') ∧ (l_M_readLetters_50 n 4 i1 i3 g = some g' → Rt (d + 6) m_M_readLetters 74 [some (vR 50), some (vI i1), none, some (vI i3)] [] g none g') ∧ (l_M_readLetters_50 n 5 i1 i3 g = some g' → Rt (d + 6) m_M_readLetters 114 [some (vR 50), some (vI i1), none, none] [] g none g') := by
  intro n
  induction n with
  | zero => intro i1 i3 g g'; exact ⟨fun hf => (by cases hf), fun hf => (by cases hf), fun hf => (by cases hf), fun hf => (by cases hf), fun hf => (by cases hf), fun hf => (by cases hf)⟩
  | succ n ih =>
    intro i1 i3 g g'
    refine ⟨?_, ?_, ?_, ?_, ?_, ?_⟩
    · intro hf
      replace hf : b_M_readLetters_50_0 (l_M_readLetters_50 n) i1 i3 g = some g' := hf
      unfold b_M_readLetters_50_0 at hf
      have h1 : ir (rI g 49 6) := by
        by_cases q : ir (rI g 49 6)
        · exact q
        · rw [if_neg q] at hf; cases hf
      rw [if_pos h1] at hf
      by_cases h2 : (rI g 49 6) = 0
      · rw [if_pos h2] at hf
        refine Rt.path ok_M_readLetters 3 [0] rfl ⟨⟨h1, h2⟩, trivial⟩ ?_
        obtain ⟨q3, e3, hf⟩ := Option.bind_eq_some_iff.mp hf
        refine Rt.path ok_M_readLetters 1 [] rfl trivial ?_
        refine Rt.callV ok_M_readLetters rfl ml_M_169 [] cf_M_need rfl rfl (c_M_need_50 (d + 2) _ _ _ e3) (Nat.le_of_ble_eq_true rfl) ?_
        have h4 : ir q3.1 := by
          by_cases q : ir q3.1
          · exact q
          · rw [if_neg q] at hf; cases hf
        rw [if_pos h4] at hf
        by_cases h5 : q3.1 = 9
        · rw [if_pos h5] at hf
          refine Rt.path ok_M_readLetters 4 [0] rfl ⟨⟨⟨h4, (show ir 9 by decide)⟩, h5⟩, trivial⟩ ?_
          have h6 : ir (rI q3.2 49 55) := by
            by_cases q : ir (rI q3.2 49 55)
            · exact q
            · rw [if_neg q] at hf; cases hf
          rw [if_pos h6] at hf
          by_cases h7 : (rI q3.2 49 55) = 0
          · rw [if_pos h7] at hf
            refine Rt.path ok_M_readLetters 3 [1] rfl ⟨⟨h6, h7⟩, trivial⟩ ?_
            exact Rt.weak ((ih _ _ _ _).2.1 hf) trivial
          · rw [if_neg h7] at hf
            refine Rt.path ok_M_readLetters 3 [0] rfl ⟨⟨h6, h7⟩, trivial⟩ ?_
            obtain ⟨q8, e8, hf⟩ := Option.bind_eq_some_iff.mp hf
            refine Rt.path ok_M_readLetters 4 [] rfl trivial ?_
            refine Rt.callV ok_M_readLetters rfl ml_M_157 [vI _, vI _] cf_M_fail rfl rfl (c_M_fail_50 (d + 5) _ _ _ _ e8) (Nat.le_of_ble_eq_true rfl) ?_
            exact Rt.weak ((ih _ _ _ _).2.1 hf) trivial
        · rw [if_neg h5] at hf
          refine Rt.path ok_M_readLetters 4 [1] rfl ⟨⟨⟨h4, (show ir 9 by decide)⟩, h5⟩, trivial⟩ ?_
          by_cases h9 : q3.1 = 0
          · rw [if_pos h9] at hf
            refine Rt.path ok_M_readLetters 2 [0] rfl ⟨⟨h4, h9⟩, trivial⟩ ?_
            obtain ⟨q10, e10, hf⟩ := Option.bind_eq_some_iff.mp hf
            refine Rt.path ok_M_readLetters 1 [] rfl trivial ?_
            refine Rt.callV ok_M_readLetters rfl ml_M_326 [] cf_M_isLetters rfl rfl (c_M_isLetters_50 (d + 4) _ _ _ e10) (Nat.le_of_ble_eq_true rfl) ?_
            have h11 : ir q10.1 := by
              by_cases q : ir q10.1
              · exact q
              · rw [if_neg q] at hf; cases hf
            rw [if_pos h11] at hf
            by_cases h12 : q10.1 = 0
            · rw [if_pos h12] at hf
              refine Rt.path ok_M_readLetters 1 [0] rfl ⟨⟨h11, h12⟩, trivial⟩ ?_
              exact Rt.weak ((ih _ _ _ _).2.2.1 hf) ⟨rfl, rfl, trivial⟩
            · rw [if_neg h12] at hf
              refine Rt.path ok_M_readLetters 1 [1] rfl ⟨⟨h11, h12⟩, trivial⟩ ?_
              exact Rt.weak ((ih _ _ _ _).2.2.2.1 hf) ⟨rfl, rfl, trivial⟩
          · rw [if_neg h9] at hf
            refine Rt.path ok_M_readLetters 2 [1] rfl ⟨⟨h4, h9⟩, trivial⟩ ?_
            exact Rt.weak ((ih _ _ _ _).2.2.1 hf) ⟨rfl, rfl, trivial⟩
      · rw [if_neg h2] at hf
        refine Rt.path ok_M_readLetters 3 [1] rfl ⟨⟨h1, h2⟩, trivial⟩ ?_
        cases hf
        exact Rt.retV ok_M_readLetters rfl rfl
    · intro hf
      replace hf : b_M_readLetters_50_1 (l_M_readLetters_50 n) i1 i3 g = some g' := hf
      unfold b_M_readLetters_50_1 at hf
      cases hf
      exact Rt.retV ok_M_readLetters rfl rfl
    · intro hf
      replace hf : b_M_readLetters_50_2 (l_M_readLetters_50 n) i1 i3 g = some g' := hf
      unfold b_M_readLetters_50_2 at hf
      obtain ⟨q13, e13, hf⟩ := Option.bind_eq_some_iff.mp hf
      refine Rt.path ok_M_readLetters 4 [] rfl trivial ?_
      refine Rt.callV ok_M_readLetters rfl ml_M_157 [vI _, vI _] cf_M_fail rfl rfl (c_M_fail_50 (d + 5) _ _ _ _ e13) (Nat.le_of_ble_eq_true rfl) ?_
      exact Rt.weak ((ih _ _ _ _).2.2.2.1 hf) ⟨rfl, rfl, trivial⟩
    · intro hf
      replace hf : b_M_readLetters_50_3 (l_M_readLetters_50 n) i1 i3 g = some g' := hf
      unfold b_M_readLetters_50_3 at hf
      refine Rt.path ok_M_readLetters 2 [] rfl trivial ?_
      exact Rt.weak ((ih _ _ _ _).2.2.2.2.1 hf) ⟨rfl, rfl, rfl, trivial⟩
    · intro hf
      replace hf : b_M_readLetters_50_4 (l_M_readLetters_50 n) i1 i3 g = some g' := hf
      unfold b_M_readLetters_50_4 at hf
      have h14 : ir (rI g 49 6) := by
        by_cases q : ir (rI g 49 6)
        · exact q
        · rw [if_neg q] at hf; cases hf
      rw [if_pos h14] at hf
      by_cases h15 : (rI g 49 6) = 0
      · rw [if_pos h15] at hf
        refine Rt.path ok_M_readLetters 3 [0] rfl ⟨⟨h14, h15⟩, trivial⟩ ?_
        have h16 : 0 ≤ (rI g 49 5) ∧ (rI g 49 5) < 801 := by
          by_cases q : 0 ≤ (rI g 49 5) ∧ (rI g 49 5) < 801
          · exact q
          · rw [if_neg q] at hf; cases hf
        rw [if_pos h16] at hf
        have h17 : ir i3 := by
          by_cases q : ir i3
          · exact q
          · rw [if_neg q] at hf; cases hf
        rw [if_pos h17] at hf
        have h18 : ir (rA g 52 (rI g 49 5)) := by
          by_cases q : ir (rA g 52 (rI g 49 5))
          · exact q
          · rw [if_neg q] at hf; cases hf
        rw [if_pos h18] at hf
        by_cases h19 : i3 < (rA g 52 (rI g 49 5))
        · rw [if_pos h19] at hf
          refine Rt.path ok_M_readLetters 7 [0] rfl ⟨(ix_801 h16), ⟨⟨h17, h18⟩, h19⟩, trivial⟩ ?_
          obtain ⟨q20, e20, hf⟩ := Option.bind_eq_some_iff.mp hf
          refine Rt.path ok_M_readLetters 6 [] rfl trivial ?_
          refine Rt.callV ok_M_readLetters rfl ml_M_141 [vI _, vI _] cf_M_letter rfl rfl (c_M_letter_50 (d + 5) _ _ _ _ _ e20) (Nat.le_of_ble_eq_true rfl) ?_
          obtain ⟨q21, e21, hf⟩ := Option.bind_eq_some_iff.mp hf
          refine Rt.callV ok_M_readLetters rfl ml_M_329 [vI _, vI _] cf_M_readLetter rfl rfl (c_M_readLetter_50 d _ _ _ _ e21) (Nat.le_of_ble_eq_true rfl) ?_
          refine Rt.path ok_M_readLetters 2 [] rfl trivial ?_
          exact Rt.weak ((ih _ _ _ _).2.2.2.2.1 hf) ⟨rfl, rfl, rfl, trivial⟩
        · rw [if_neg h19] at hf
          refine Rt.path ok_M_readLetters 7 [1] rfl ⟨(ix_801 h16), ⟨⟨h17, h18⟩, (Int.not_lt.mp h19)⟩, trivial⟩ ?_
          exact Rt.weak ((ih _ _ _ _).2.2.2.2.2 hf) ⟨rfl, rfl, trivial⟩
      · rw [if_neg h15] at hf
        refine Rt.path ok_M_readLetters 3 [1] rfl ⟨⟨h14, h15⟩, trivial⟩ ?_
        exact Rt.weak ((ih _ _ _ _).2.2.2.2.2 hf) ⟨rfl, rfl, trivial⟩
    · intro hf
      replace hf : b_M_readLetters_50_5 (l_M_readLetters_50 n) i1 i3 g = some g' := hf
      unfold b_M_readLetters_50_5 at hf
      refine Rt.path ok_M_readLetters 7 [] rfl trivial ?_
      exact Rt.weak ((ih _ _ _ _).1 hf) ⟨rfl, rfl, trivial⟩
def f_M_readLetters_50 (a1 : Int) (g : G2) : Option (G2) :=
  l_M_readLetters_50 20000 0 a1 0 (gI (gI (gI g 49 54 0) 49 55 0) 49 56 0)
set_option maxHeartbeats 4000000 in
set_option maxRecDepth 100000 in
theorem c_M_readLetters_50 (d : Nat) (a1 : Int) (g : G2) (g' : G2) (hf : f_M_readLetters_50 a1 g = some g') : C2 (d + 6) m_M_readLetters [vR 50, vI a1] g none g' := by
  unfold f_M_readLetters_50 at hf
  refine C2.of rfl rfl rfl (Nat.le_of_ble_eq_true rfl) ?_
  refine Rt.path ok_M_readLetters 9 [] rfl ⟨(show (0 : Int) = 0 ∨ (0 : Int) = 1 by decide), (show (0 : Int) = 0 ∨ (0 : Int) = 1 by decide), trivial⟩ ?_
  exact Rt.weak ((rl_M_readLetters_50 d _ _ _ _ _).1 hf) ⟨rfl, rfl, trivial⟩
def f_M_readProof_50 (a1 : Int) (g : G2) : Option (G2) :=
  (f_M_need_50 g).bind fun q1 =>
  if ir q1.1 then
  if q1.1 = 0 then
    (f_M_isWord_50 40 q1.2).bind fun q4 =>
    if ir q4.1 then
    if q4.1 = 0 then
      (f_M_readSteps_50 a1 q4.2).bind fun q7 =>
      if ir (rI q7 49 6) then
      if (rI q7 49 6) = 0 then
        (f_M_finish_50 q7).bind fun q10 =>
        some q10
      else
        some q7
      else none
    else
      (f_M_readListed_50 a1 (gI q4.2 49 5 ((rI q4.2 49 5) + 1))).bind fun q11 =>
      if ir (rI q11 49 6) then
      if (rI q11 49 6) = 0 then
        (f_M_readLetters_50 a1 q11).bind fun q14 =>
        if ir (rI q14 49 6) then
        if (rI q14 49 6) = 0 then
          (f_M_finish_50 q14).bind fun q17 =>
          some q17
        else
          some q14
        else none
      else
        if (rI q11 49 6) = 0 then
          (f_M_finish_50 q11).bind fun q19 =>
          some q19
        else
          some q11
      else none
    else none
  else
    (f_M_readSteps_50 a1 q1.2).bind fun q20 =>
    if ir (rI q20 49 6) then
    if (rI q20 49 6) = 0 then
      (f_M_finish_50 q20).bind fun q23 =>
      some q23
    else
      some q20
    else none
  else none
set_option maxHeartbeats 4000000 in
set_option maxRecDepth 100000 in
theorem c_M_readProof_50 (d : Nat) (a1 : Int) (g : G2) (g' : G2) (hf : f_M_readProof_50 a1 g = some g') : C2 (d + 7) m_M_readProof [vR 50, vI a1] g none g' := by
  unfold f_M_readProof_50 at hf
  refine C2.of rfl rfl rfl (Nat.le_of_ble_eq_true rfl) ?_
  obtain ⟨q1, e1, hf⟩ := Option.bind_eq_some_iff.mp hf
  refine Rt.path ok_M_readProof 1 [] rfl trivial ?_
  refine Rt.callV ok_M_readProof rfl ml_M_169 [] cf_M_need rfl rfl (c_M_need_50 (d + 3) _ _ _ e1) (Nat.le_of_ble_eq_true rfl) ?_
  have h2 : ir q1.1 := by
    by_cases q : ir q1.1
    · exact q
    · rw [if_neg q] at hf; cases hf
  rw [if_pos h2] at hf
  by_cases h3 : q1.1 = 0
  · rw [if_pos h3] at hf
    refine Rt.path ok_M_readProof 3 [0] rfl ⟨⟨h2, h3⟩, trivial⟩ ?_
    obtain ⟨q4, e4, hf⟩ := Option.bind_eq_some_iff.mp hf
    refine Rt.path ok_M_readProof 2 [] rfl trivial ?_
    refine Rt.callV ok_M_readProof rfl ml_M_290 [vI _] cf_M_isWord rfl rfl (c_M_isWord_50 (d + 5) _ _ _ _ e4) (Nat.le_of_ble_eq_true rfl) ?_
    have h5 : ir q4.1 := by
      by_cases q : ir q4.1
      · exact q
      · rw [if_neg q] at hf; cases hf
    rw [if_pos h5] at hf
    by_cases h6 : q4.1 = 0
    · rw [if_pos h6] at hf
      refine Rt.path ok_M_readProof 1 [1] rfl ⟨⟨h5, h6⟩, trivial⟩ ?_
      obtain ⟨q7, e7, hf⟩ := Option.bind_eq_some_iff.mp hf
      refine Rt.path ok_M_readProof 2 [] rfl trivial ?_
      refine Rt.callV ok_M_readProof rfl ml_M_299 [vI _] cf_M_readSteps rfl rfl (c_M_readSteps_50 (d + 2) _ _ _ e7) (Nat.le_of_ble_eq_true rfl) ?_
      have h8 : ir (rI q7 49 6) := by
        by_cases q : ir (rI q7 49 6)
        · exact q
        · rw [if_neg q] at hf; cases hf
      rw [if_pos h8] at hf
      by_cases h9 : (rI q7 49 6) = 0
      · rw [if_pos h9] at hf
        refine Rt.path ok_M_readProof 3 [0] rfl ⟨⟨h8, h9⟩, trivial⟩ ?_
        obtain ⟨q10, e10, hf⟩ := Option.bind_eq_some_iff.mp hf
        refine Rt.path ok_M_readProof 1 [] rfl trivial ?_
        refine Rt.callV ok_M_readProof rfl ml_M_302 [] cf_M_finish rfl rfl (c_M_finish_50 (d + 5) _ _ e10) (Nat.le_of_ble_eq_true rfl) ?_
        cases hf
        exact Rt.retV ok_M_readProof rfl rfl
      · rw [if_neg h9] at hf
        refine Rt.path ok_M_readProof 3 [1] rfl ⟨⟨h8, h9⟩, trivial⟩ ?_
        cases hf
        exact Rt.retV ok_M_readProof rfl rfl
    · rw [if_neg h6] at hf
      refine Rt.path ok_M_readProof 1 [0] rfl ⟨⟨h5, h6⟩, trivial⟩ ?_
      obtain ⟨q11, e11, hf⟩ := Option.bind_eq_some_iff.mp hf
      refine Rt.path ok_M_readProof 8 [] rfl trivial ?_
      refine Rt.callV ok_M_readProof rfl ml_M_293 [vI _] cf_M_readListed rfl rfl (c_M_readListed_50 (d + 1) _ _ _ e11) (Nat.le_of_ble_eq_true rfl) ?_
      have h12 : ir (rI q11 49 6) := by
        by_cases q : ir (rI q11 49 6)
        · exact q
        · rw [if_neg q] at hf; cases hf
      rw [if_pos h12] at hf
      by_cases h13 : (rI q11 49 6) = 0
      · rw [if_pos h13] at hf
        refine Rt.path ok_M_readProof 3 [0] rfl ⟨⟨h12, h13⟩, trivial⟩ ?_
        obtain ⟨q14, e14, hf⟩ := Option.bind_eq_some_iff.mp hf
        refine Rt.path ok_M_readProof 2 [] rfl trivial ?_
        refine Rt.callV ok_M_readProof rfl ml_M_296 [vI _] cf_M_readLetters rfl rfl (c_M_readLetters_50 d _ _ _ e14) (Nat.le_of_ble_eq_true rfl) ?_
        have h15 : ir (rI q14 49 6) := by
          by_cases q : ir (rI q14 49 6)
          · exact q
          · rw [if_neg q] at hf; cases hf
        rw [if_pos h15] at hf
        by_cases h16 : (rI q14 49 6) = 0
        · rw [if_pos h16] at hf
          refine Rt.path ok_M_readProof 4 [0] rfl ⟨⟨h15, h16⟩, trivial⟩ ?_
          obtain ⟨q17, e17, hf⟩ := Option.bind_eq_some_iff.mp hf
          refine Rt.path ok_M_readProof 1 [] rfl trivial ?_
          refine Rt.callV ok_M_readProof rfl ml_M_302 [] cf_M_finish rfl rfl (c_M_finish_50 (d + 5) _ _ e17) (Nat.le_of_ble_eq_true rfl) ?_
          cases hf
          exact Rt.retV ok_M_readProof rfl rfl
        · rw [if_neg h16] at hf
          refine Rt.path ok_M_readProof 4 [1] rfl ⟨⟨h15, h16⟩, trivial⟩ ?_
          cases hf
          exact Rt.retV ok_M_readProof rfl rfl
      · rw [if_neg h13] at hf
        refine Rt.path ok_M_readProof 3 [1] rfl ⟨⟨h12, h13⟩, trivial⟩ ?_
        by_cases h18 : (rI q11 49 6) = 0
        · rw [if_pos h18] at hf
          refine Rt.path ok_M_readProof 3 [0] rfl ⟨⟨h12, h18⟩, trivial⟩ ?_
          obtain ⟨q19, e19, hf⟩ := Option.bind_eq_some_iff.mp hf
          refine Rt.path ok_M_readProof 1 [] rfl trivial ?_
          refine Rt.callV ok_M_readProof rfl ml_M_302 [] cf_M_finish rfl rfl (c_M_finish_50 (d + 5) _ _ e19) (Nat.le_of_ble_eq_true rfl) ?_
          cases hf
          exact Rt.retV ok_M_readProof rfl rfl
        · rw [if_neg h18] at hf
          refine Rt.path ok_M_readProof 3 [1] rfl ⟨⟨h12, h18⟩, trivial⟩ ?_
          cases hf
          exact Rt.retV ok_M_readProof rfl rfl
  · rw [if_neg h3] at hf
    refine Rt.path ok_M_readProof 3 [1] rfl ⟨⟨h2, h3⟩, trivial⟩ ?_
    obtain ⟨q20, e20, hf⟩ := Option.bind_eq_some_iff.mp hf
    refine Rt.path ok_M_readProof 2 [] rfl trivial ?_
    refine Rt.callV ok_M_readProof rfl ml_M_299 [vI _] cf_M_readSteps rfl rfl (c_M_readSteps_50 (d + 2) _ _ _ e20) (Nat.le_of_ble_eq_true rfl) ?_
    have h21 : ir (rI q20 49 6) := by
      by_cases q : ir (rI q20 49 6)
      · exact q
      · rw [if_neg q] at hf; cases hf
    rw [if_pos h21] at hf
    by_cases h22 : (rI q20 49 6) = 0
    · rw [if_pos h22] at hf
      refine Rt.path ok_M_readProof 3 [0] rfl ⟨⟨h21, h22⟩, trivial⟩ ?_
      obtain ⟨q23, e23, hf⟩ := Option.bind_eq_some_iff.mp hf
      refine Rt.path ok_M_readProof 1 [] rfl trivial ?_
      refine Rt.callV ok_M_readProof rfl ml_M_302 [] cf_M_finish rfl rfl (c_M_finish_50 (d + 5) _ _ e23) (Nat.le_of_ble_eq_true rfl) ?_
      cases hf
      exact Rt.retV ok_M_readProof rfl rfl
    · rw [if_neg h22] at hf
      refine Rt.path ok_M_readProof 3 [1] rfl ⟨⟨h21, h22⟩, trivial⟩ ?_
      cases hf
      exact Rt.retV ok_M_readProof rfl rfl
def b_M_readLabelled_50_0 (L : Nat → Int64 → Int → Int → G2 → Option (G2)) (l1 : Int64) (i3 : Int) (i4 : Int) (g : G2) : Option (G2) :=
  (f_M_fail_50 (-7) (rI g 49 5) g).bind fun q19 =>
  some q19
def b_M_readLabelled_50_1 (L : Nat → Int64 → Int → Int → G2 → Option (G2)) (l1 : Int64) (i3 : Int) (i4 : Int) (g : G2) : Option (G2) :=
  if ir i3 then
  if i3 = 7 then
    (f_M_readExpression_50 8 g).bind fun q22 =>
    if ir q22.1 then
    if q22.1 = 0 then
      some q22.2
    else
      if i3 = 5 then
        L 2 l1 i3 (rI q22.2 49 27) q22.2
      else
        (f_M_findNeeds_50 q22.2).bind fun q26 =>
        (f_M_begin_50 (rI q22.2 49 27) q26).bind fun q27 =>
        if i3 = 7 then
          (f_M_readProof_50 (rI q22.2 49 27) q27).bind fun q29 =>
          L 2 l1 i3 (rI q22.2 49 27) q29
        else
          L 2 l1 i3 (rI q22.2 49 27) q27
    else none
  else
    (f_M_readExpression_50 9 g).bind fun q30 =>
    if ir q30.1 then
    if q30.1 = 0 then
      some q30.2
    else
      if i3 = 5 then
        L 2 l1 i3 (rI q30.2 49 27) q30.2
      else
        (f_M_findNeeds_50 q30.2).bind fun q34 =>
        (f_M_begin_50 (rI q30.2 49 27) q34).bind fun q35 =>
        if i3 = 7 then
          (f_M_readProof_50 (rI q30.2 49 27) q35).bind fun q37 =>
          L 2 l1 i3 (rI q30.2 49 27) q37
        else
          L 2 l1 i3 (rI q30.2 49 27) q35
    else none
  else none
def b_M_readLabelled_50_2 (L : Nat → Int64 → Int → Int → G2 → Option (G2)) (l1 : Int64) (i3 : Int) (i4 : Int) (g : G2) : Option (G2) :=
  if ir (rI g 49 6) then
  if (rI g 49 6) = 0 then
    (f_M_declare_50 i3 l1 g).bind fun q40 =>
    if ir i3 then
    if i3 = 5 then
      L 3 0 0 0 q40.2
    else
      if 0 ≤ q40.1 ∧ q40.1 < 40 then
      if 0 ≤ i4 ∧ i4 < 41 then
      (f_M_settle_50 i4 (gA (gA q40.2 64 q40.1 i4) 68 i4 q40.1)).bind fun q45 =>
      L 3 0 0 0 (gI q45 49 27 ((rI q45 49 27) + 1))
      else none
      else none
    else none
  else
    L 3 0 0 0 g
  else none
def b_M_readLabelled_50_3 (L : Nat → Int64 → Int → Int → G2 → Option (G2)) (l1 : Int64) (i3 : Int) (i4 : Int) (g : G2) : Option (G2) :=
  L 4 0 0 0 g
def b_M_readLabelled_50_4 (L : Nat → Int64 → Int → Int → G2 → Option (G2)) (l1 : Int64) (i3 : Int) (i4 : Int) (g : G2) : Option (G2) :=
  some g
def l_M_readLabelled_50 : Nat → Nat → Int64 → Int → Int → G2 → Option (G2)
  | 0 => fun _ _ _ _ _ => none
  | n + 1 => fun t l1 i3 i4 g => match t with
    | 0 => b_M_readLabelled_50_0 (l_M_readLabelled_50 n) l1 i3 i4 g
    | 1 => b_M_readLabelled_50_1 (l_M_readLabelled_50 n) l1 i3 i4 g
    | 2 => b_M_readLabelled_50_2 (l_M_readLabelled_50 n) l1 i3 i4 g
    | 3 => b_M_readLabelled_50_3 (l_M_readLabelled_50 n) l1 i3 i4 g
    | _ => b_M_readLabelled_50_4 (l_M_readLabelled_50 n) l1 i3 i4 g
set_option maxHeartbeats 4000000 in
set_option maxRecDepth 100000 in
theorem rl_M_readLabelled_50 (d : Nat) : ∀ (n : Nat) (l1 : Int64) (i3 : Int) (i4 : Int) (g : G2) (g' : G2), (l_M_readLabelled_50 n 0 l1 i3 i4 g = some g' → Rt (d + 8) m_M_readLabelled 46 [some (vR 50), none, none, none, none, none] [] g none g') ∧ (l_M_readLabelled_50 n 1 l1 i3 i4 g = some g' → Rt (d + 8) m_M_readLabelled 107 [some (vR 50), some (vL l1), none, some (vI i3), none, none] [] g none g') ∧ (l_M_readLabelled_50 n 2 l1 i3 i4 g = some g' → Rt (d + 8) m_M_readLabelled 161 [some (vR 50), some (vL l1), none, some (vI i3), some (vI i4), none] [] g none g') ∧ (l_M_readLabelled_50 n 3 l1 i3 i4 g = some g' → Rt (d + 8) m_M_readLabelled 215 [none, none, none, none, none, none] [] g none g') ∧ (l_M_readLabelled_50 n 4 l1 i3 i4 g = some g' → Rt (d + 8) m_M_readLabelled 228 [none, none, none, none, none, none] [] g none g') := by
  intro n
  induction n with
  | zero => intro l1 i3 i4 g g'; exact ⟨fun hf => (by cases hf), fun hf => (by cases hf), fun hf => (by cases hf), fun hf => (by cases hf), fun hf => (by cases hf)⟩
  | succ n ih =>
    intro l1 i3 i4 g g'
    refine ⟨?_, ?_, ?_, ?_, ?_⟩
    · intro hf
      replace hf : b_M_readLabelled_50_0 (l_M_readLabelled_50 n) l1 i3 i4 g = some g' := hf
      unfold b_M_readLabelled_50_0 at hf
      obtain ⟨q19, e19, hf⟩ := Option.bind_eq_some_iff.mp hf
      refine Rt.path ok_M_readLabelled 4 [] rfl trivial ?_
      refine Rt.callV ok_M_readLabelled rfl ml_M_157 [vI _, vI _] cf_M_fail rfl rfl (c_M_fail_50 (d + 7) _ _ _ _ e19) (Nat.le_of_ble_eq_true rfl) ?_
      cases hf
      exact Rt.retV ok_M_readLabelled rfl rfl
    · intro hf
      replace hf : b_M_readLabelled_50_1 (l_M_readLabelled_50 n) l1 i3 i4 g = some g' := hf
      unfold b_M_readLabelled_50_1 at hf
      have h20 : ir i3 := by
        by_cases q : ir i3
        · exact q
        · rw [if_neg q] at hf; cases hf
      rw [if_pos h20] at hf
      by_cases h21 : i3 = 7
      · rw [if_pos h21] at hf
        refine Rt.path ok_M_readLabelled 4 [0] rfl ⟨⟨⟨h20, (show ir 7 by decide)⟩, h21⟩, trivial⟩ ?_
        obtain ⟨q22, e22, hf⟩ := Option.bind_eq_some_iff.mp hf
        refine Rt.path ok_M_readLabelled 2 [] rfl trivial ?_
        refine Rt.callV ok_M_readLabelled rfl ml_M_240 [vI _] cf_M_readExpression rfl rfl (c_M_readExpression_50 (d + 1) _ _ _ _ e22) (Nat.le_of_ble_eq_true rfl) ?_
        have h23 : ir q22.1 := by
          by_cases q : ir q22.1
          · exact q
          · rw [if_neg q] at hf; cases hf
        rw [if_pos h23] at hf
        by_cases h24 : q22.1 = 0
        · rw [if_pos h24] at hf
          refine Rt.path ok_M_readLabelled 1 [0] rfl ⟨⟨h23, h24⟩, trivial⟩ ?_
          cases hf
          exact Rt.retV ok_M_readLabelled rfl rfl
        · rw [if_neg h24] at hf
          refine Rt.path ok_M_readLabelled 1 [1] rfl ⟨⟨h23, h24⟩, trivial⟩ ?_
          by_cases h25 : i3 = 5
          · rw [if_pos h25] at hf
            refine Rt.path ok_M_readLabelled 6 [1] rfl ⟨⟨⟨h20, (show ir 5 by decide)⟩, h25⟩, trivial⟩ ?_
            exact Rt.weak ((ih _ _ _ _ _).2.2.1 hf) ⟨rfl, rfl, rfl, rfl, trivial⟩
          · rw [if_neg h25] at hf
            refine Rt.path ok_M_readLabelled 6 [0] rfl ⟨⟨⟨h20, (show ir 5 by decide)⟩, h25⟩, trivial⟩ ?_
            obtain ⟨q26, e26, hf⟩ := Option.bind_eq_some_iff.mp hf
            refine Rt.path ok_M_readLabelled 1 [] rfl trivial ?_
            refine Rt.callV ok_M_readLabelled rfl ml_M_243 [] cf_M_findNeeds rfl rfl (c_M_findNeeds_50 (d + 6) _ _ e26) (Nat.le_of_ble_eq_true rfl) ?_
            obtain ⟨q27, e27, hf⟩ := Option.bind_eq_some_iff.mp hf
            refine Rt.path ok_M_readLabelled 2 [] rfl trivial ?_
            refine Rt.callV ok_M_readLabelled rfl ml_M_246 [vI _] cf_M_begin rfl rfl (c_M_begin_50 (d + 7) _ _ _ e27) (Nat.le_of_ble_eq_true rfl) ?_
            by_cases h28 : i3 = 7
            · rw [if_pos h28] at hf
              refine Rt.path ok_M_readLabelled 3 [0] rfl ⟨⟨⟨h20, (show ir 7 by decide)⟩, h28⟩, trivial⟩ ?_
              obtain ⟨q29, e29, hf⟩ := Option.bind_eq_some_iff.mp hf
              refine Rt.path ok_M_readLabelled 2 [] rfl trivial ?_
              refine Rt.callV ok_M_readLabelled rfl ml_M_250 [vI _] cf_M_readProof rfl rfl (c_M_readProof_50 d _ _ _ e29) (Nat.le_of_ble_eq_true rfl) ?_
              exact Rt.weak ((ih _ _ _ _ _).2.2.1 hf) ⟨rfl, rfl, rfl, rfl, trivial⟩
            · rw [if_neg h28] at hf
              refine Rt.path ok_M_readLabelled 3 [1] rfl ⟨⟨⟨h20, (show ir 7 by decide)⟩, h28⟩, trivial⟩ ?_
              exact Rt.weak ((ih _ _ _ _ _).2.2.1 hf) ⟨rfl, rfl, rfl, rfl, trivial⟩
      · rw [if_neg h21] at hf
        refine Rt.path ok_M_readLabelled 4 [1] rfl ⟨⟨⟨h20, (show ir 7 by decide)⟩, h21⟩, trivial⟩ ?_
        obtain ⟨q30, e30, hf⟩ := Option.bind_eq_some_iff.mp hf
        refine Rt.path ok_M_readLabelled 1 [] rfl trivial ?_
        refine Rt.callV ok_M_readLabelled rfl ml_M_240 [vI _] cf_M_readExpression rfl rfl (c_M_readExpression_50 (d + 1) _ _ _ _ e30) (Nat.le_of_ble_eq_true rfl) ?_
        have h31 : ir q30.1 := by
          by_cases q : ir q30.1
          · exact q
          · rw [if_neg q] at hf; cases hf
        rw [if_pos h31] at hf
        by_cases h32 : q30.1 = 0
        · rw [if_pos h32] at hf
          refine Rt.path ok_M_readLabelled 1 [0] rfl ⟨⟨h31, h32⟩, trivial⟩ ?_
          cases hf
          exact Rt.retV ok_M_readLabelled rfl rfl
        · rw [if_neg h32] at hf
          refine Rt.path ok_M_readLabelled 1 [1] rfl ⟨⟨h31, h32⟩, trivial⟩ ?_
          by_cases h33 : i3 = 5
          · rw [if_pos h33] at hf
            refine Rt.path ok_M_readLabelled 6 [1] rfl ⟨⟨⟨h20, (show ir 5 by decide)⟩, h33⟩, trivial⟩ ?_
            exact Rt.weak ((ih _ _ _ _ _).2.2.1 hf) ⟨rfl, rfl, rfl, rfl, trivial⟩
          · rw [if_neg h33] at hf
            refine Rt.path ok_M_readLabelled 6 [0] rfl ⟨⟨⟨h20, (show ir 5 by decide)⟩, h33⟩, trivial⟩ ?_
            obtain ⟨q34, e34, hf⟩ := Option.bind_eq_some_iff.mp hf
            refine Rt.path ok_M_readLabelled 1 [] rfl trivial ?_
            refine Rt.callV ok_M_readLabelled rfl ml_M_243 [] cf_M_findNeeds rfl rfl (c_M_findNeeds_50 (d + 6) _ _ e34) (Nat.le_of_ble_eq_true rfl) ?_
            obtain ⟨q35, e35, hf⟩ := Option.bind_eq_some_iff.mp hf
            refine Rt.path ok_M_readLabelled 2 [] rfl trivial ?_
            refine Rt.callV ok_M_readLabelled rfl ml_M_246 [vI _] cf_M_begin rfl rfl (c_M_begin_50 (d + 7) _ _ _ e35) (Nat.le_of_ble_eq_true rfl) ?_
            by_cases h36 : i3 = 7
            · rw [if_pos h36] at hf
              refine Rt.path ok_M_readLabelled 3 [0] rfl ⟨⟨⟨h20, (show ir 7 by decide)⟩, h36⟩, trivial⟩ ?_
              obtain ⟨q37, e37, hf⟩ := Option.bind_eq_some_iff.mp hf
              refine Rt.path ok_M_readLabelled 2 [] rfl trivial ?_
              refine Rt.callV ok_M_readLabelled rfl ml_M_250 [vI _] cf_M_readProof rfl rfl (c_M_readProof_50 d _ _ _ e37) (Nat.le_of_ble_eq_true rfl) ?_
              exact Rt.weak ((ih _ _ _ _ _).2.2.1 hf) ⟨rfl, rfl, rfl, rfl, trivial⟩
            · rw [if_neg h36] at hf
              refine Rt.path ok_M_readLabelled 3 [1] rfl ⟨⟨⟨h20, (show ir 7 by decide)⟩, h36⟩, trivial⟩ ?_
              exact Rt.weak ((ih _ _ _ _ _).2.2.1 hf) ⟨rfl, rfl, rfl, rfl, trivial⟩
    · intro hf
      replace hf : b_M_readLabelled_50_2 (l_M_readLabelled_50 n) l1 i3 i4 g = some g' := hf
      unfold b_M_readLabelled_50_2 at hf
      have h38 : ir (rI g 49 6) := by
        by_cases q : ir (rI g 49 6)
        · exact q
        · rw [if_neg q] at hf; cases hf
      rw [if_pos h38] at hf
      by_cases h39 : (rI g 49 6) = 0
      · rw [if_pos h39] at hf
        refine Rt.path ok_M_readLabelled 3 [0] rfl ⟨⟨h38, h39⟩, trivial⟩ ?_
        obtain ⟨q40, e40, hf⟩ := Option.bind_eq_some_iff.mp hf
        refine Rt.path ok_M_readLabelled 3 [] rfl trivial ?_
        refine Rt.callV ok_M_readLabelled rfl ml_M_222 [vI _, vL _] cf_M_declare rfl rfl (c_M_declare_50 (d + 6) _ _ _ _ _ e40) (Nat.le_of_ble_eq_true rfl) ?_
        have h41 : ir i3 := by
          by_cases q : ir i3
          · exact q
          · rw [if_neg q] at hf; cases hf
        rw [if_pos h41] at hf
        by_cases h42 : i3 = 5
        · rw [if_pos h42] at hf
          refine Rt.path ok_M_readLabelled 4 [1] rfl ⟨⟨⟨h41, (show ir 5 by decide)⟩, h42⟩, trivial⟩ ?_
          exact Rt.weak ((ih _ _ _ _ _).2.2.2.1 hf) trivial
        · rw [if_neg h42] at hf
          refine Rt.path ok_M_readLabelled 4 [0] rfl ⟨⟨⟨h41, (show ir 5 by decide)⟩, h42⟩, trivial⟩ ?_
          have h43 : 0 ≤ q40.1 ∧ q40.1 < 40 := by
            by_cases q : 0 ≤ q40.1 ∧ q40.1 < 40
            · exact q
            · rw [if_neg q] at hf; cases hf
          rw [if_pos h43] at hf
          have h44 : 0 ≤ i4 ∧ i4 < 41 := by
            by_cases q : 0 ≤ i4 ∧ i4 < 41
            · exact q
            · rw [if_neg q] at hf; cases hf
          rw [if_pos h44] at hf
          obtain ⟨q45, e45, hf⟩ := Option.bind_eq_some_iff.mp hf
          refine Rt.path ok_M_readLabelled 12 [] rfl ⟨(ix_40 h43), (ix_41 h44), trivial⟩ ?_
          refine Rt.callV ok_M_readLabelled rfl ml_M_253 [vI _] cf_M_settle rfl rfl (c_M_settle_50 (d + 7) _ _ _ e45) (Nat.le_of_ble_eq_true rfl) ?_
          refine Rt.path ok_M_readLabelled 6 [] rfl trivial ?_
          exact Rt.weak ((ih _ _ _ _ _).2.2.2.1 hf) trivial
      · rw [if_neg h39] at hf
        refine Rt.path ok_M_readLabelled 3 [1] rfl ⟨⟨h38, h39⟩, trivial⟩ ?_
        exact Rt.weak ((ih _ _ _ _ _).2.2.2.1 hf) trivial
    · intro hf
      replace hf : b_M_readLabelled_50_3 (l_M_readLabelled_50 n) l1 i3 i4 g = some g' := hf
      unfold b_M_readLabelled_50_3 at hf
      refine Rt.path ok_M_readLabelled 1 [] rfl trivial ?_
      exact Rt.weak ((ih _ _ _ _ _).2.2.2.2 hf) trivial
    · intro hf
      replace hf : b_M_readLabelled_50_4 (l_M_readLabelled_50 n) l1 i3 i4 g = some g' := hf
      unfold b_M_readLabelled_50_4 at hf
      cases hf
      exact Rt.retV ok_M_readLabelled rfl rfl
def f_M_readLabelled_50  (g : G2) : Option (G2) :=
  (f_M_codeOf_50 (rI g 49 5) g).bind fun q1 =>
  (f_M_find_50 q1.1 q1.2).bind fun q2 =>
  if ir q2.1 then
  if q2.1 < 0 then
    if ir (rI q2.2 49 8) then
    if (rI q2.2 49 8) = 60 then
      l_M_readLabelled_50 20000 0 0 0 0 q2.2
    else
      if ir (rI q2.2 49 15) then
      if (rI q2.2 49 15) = 40 then
        l_M_readLabelled_50 20000 0 0 0 0 q2.2
      else
        (f_M_need_50 (gI q2.2 49 5 ((rI q2.2 49 5) + 1))).bind fun q9 =>
        if ir q9.1 then
        if q9.1 < 0 then
          some q9.2
        else
          if q9.1 = 4 then
            (f_M_readFloating_50 q1.1 q9.2).bind fun q13 =>
            l_M_readLabelled_50 20000 4 0 0 0 q13
          else
            if q9.1 = 5 then
              l_M_readLabelled_50 20000 1 q1.1 q9.1 0 q9.2
            else
              if q9.1 = 6 then
                l_M_readLabelled_50 20000 1 q1.1 q9.1 0 q9.2
              else
                if q9.1 = 7 then
                  l_M_readLabelled_50 20000 1 q1.1 q9.1 0 q9.2
                else
                  (f_M_fail_50 (-3) (rI q9.2 49 5) q9.2).bind fun q17 =>
                  l_M_readLabelled_50 20000 4 0 0 0 q17
        else none
      else none
    else none
  else
    (f_M_fail_50 (-4) (rI q2.2 49 5) q2.2).bind fun q18 =>
    some q18
  else none
set_option maxHeartbeats 4000000 in
set_option maxRecDepth 100000 in
theorem c_M_readLabelled_50 (d : Nat)  (g : G2) (g' : G2) (hf : f_M_readLabelled_50 g = some g') : C2 (d + 8) m_M_readLabelled [vR 50] g none g' := by
  unfold f_M_readLabelled_50 at hf
  refine C2.of rfl rfl rfl (Nat.le_of_ble_eq_true rfl) ?_
  obtain ⟨q1, e1, hf⟩ := Option.bind_eq_some_iff.mp hf
  refine Rt.path ok_M_readLabelled 3 [] rfl trivial ?_
  refine Rt.callV ok_M_readLabelled rfl ml_M_176 [vI _] cf_M_codeOf rfl rfl (c_M_codeOf_50 (d + 6) _ _ _ _ e1) (Nat.le_of_ble_eq_true rfl) ?_
  obtain ⟨q2, e2, hf⟩ := Option.bind_eq_some_iff.mp hf
  refine Rt.path ok_M_readLabelled 3 [] rfl trivial ?_
  refine Rt.callV ok_M_readLabelled rfl ml_M_180 [vL _] cf_M_find rfl rfl (c_M_find_50 (d + 7) _ _ _ _ e2) (Nat.le_of_ble_eq_true rfl) ?_
  have h3 : ir q2.1 := by
    by_cases q : ir q2.1
    · exact q
    · rw [if_neg q] at hf; cases hf
  rw [if_pos h3] at hf
  by_cases h4 : q2.1 < 0
  · rw [if_pos h4] at hf
    refine Rt.path ok_M_readLabelled 1 [1] rfl ⟨⟨h3, h4⟩, trivial⟩ ?_
    have h5 : ir (rI q2.2 49 8) := by
      by_cases q : ir (rI q2.2 49 8)
      · exact q
      · rw [if_neg q] at hf; cases hf
    rw [if_pos h5] at hf
    by_cases h6 : (rI q2.2 49 8) = 60
    · rw [if_pos h6] at hf
      refine Rt.path ok_M_readLabelled 4 [1] rfl ⟨⟨⟨h5, (show ir 60 by decide)⟩, h6⟩, trivial⟩ ?_
      exact Rt.weak ((rl_M_readLabelled_50 d _ _ _ _ _ _).1 hf) ⟨rfl, trivial⟩
    · rw [if_neg h6] at hf
      refine Rt.path ok_M_readLabelled 4 [0] rfl ⟨⟨⟨h5, (show ir 60 by decide)⟩, h6⟩, trivial⟩ ?_
      have h7 : ir (rI q2.2 49 15) := by
        by_cases q : ir (rI q2.2 49 15)
        · exact q
        · rw [if_neg q] at hf; cases hf
      rw [if_pos h7] at hf
      by_cases h8 : (rI q2.2 49 15) = 40
      · rw [if_pos h8] at hf
        refine Rt.path ok_M_readLabelled 4 [0] rfl ⟨⟨⟨h7, (show ir 40 by decide)⟩, h8⟩, trivial⟩ ?_
        exact Rt.weak ((rl_M_readLabelled_50 d _ _ _ _ _ _).1 hf) ⟨rfl, trivial⟩
      · rw [if_neg h8] at hf
        refine Rt.path ok_M_readLabelled 4 [1] rfl ⟨⟨⟨h7, (show ir 40 by decide)⟩, h8⟩, trivial⟩ ?_
        obtain ⟨q9, e9, hf⟩ := Option.bind_eq_some_iff.mp hf
        refine Rt.path ok_M_readLabelled 7 [] rfl trivial ?_
        refine Rt.callV ok_M_readLabelled rfl ml_M_169 [] cf_M_need rfl rfl (c_M_need_50 (d + 4) _ _ _ e9) (Nat.le_of_ble_eq_true rfl) ?_
        have h10 : ir q9.1 := by
          by_cases q : ir q9.1
          · exact q
          · rw [if_neg q] at hf; cases hf
        rw [if_pos h10] at hf
        by_cases h11 : q9.1 < 0
        · rw [if_pos h11] at hf
          refine Rt.path ok_M_readLabelled 3 [0] rfl ⟨⟨h10, h11⟩, trivial⟩ ?_
          cases hf
          exact Rt.retV ok_M_readLabelled rfl rfl
        · rw [if_neg h11] at hf
          refine Rt.path ok_M_readLabelled 3 [1] rfl ⟨⟨h10, (Int.not_lt.mp h11)⟩, trivial⟩ ?_
          by_cases h12 : q9.1 = 4
          · rw [if_pos h12] at hf
            refine Rt.path ok_M_readLabelled 3 [0] rfl ⟨⟨⟨h10, (show ir 4 by decide)⟩, h12⟩, trivial⟩ ?_
            obtain ⟨q13, e13, hf⟩ := Option.bind_eq_some_iff.mp hf
            refine Rt.path ok_M_readLabelled 2 [] rfl trivial ?_
            refine Rt.callV ok_M_readLabelled rfl ml_M_236 [vL _] cf_M_readFloating rfl rfl (c_M_readFloating_50 (d + 1) _ _ _ e13) (Nat.le_of_ble_eq_true rfl) ?_
            refine Rt.path ok_M_readLabelled 1 [] rfl trivial ?_
            exact Rt.weak ((rl_M_readLabelled_50 d _ _ _ _ _ _).2.2.2.2 hf) trivial
          · rw [if_neg h12] at hf
            refine Rt.path ok_M_readLabelled 3 [1] rfl ⟨⟨⟨h10, (show ir 4 by decide)⟩, h12⟩, trivial⟩ ?_
            by_cases h14 : q9.1 = 5
            · rw [if_pos h14] at hf
              refine Rt.path ok_M_readLabelled 3 [1] rfl ⟨⟨⟨h10, (show ir 5 by decide)⟩, h14⟩, trivial⟩ ?_
              exact Rt.weak ((rl_M_readLabelled_50 d _ _ _ _ _ _).2.1 hf) ⟨rfl, rfl, rfl, trivial⟩
            · rw [if_neg h14] at hf
              refine Rt.path ok_M_readLabelled 3 [0] rfl ⟨⟨⟨h10, (show ir 5 by decide)⟩, h14⟩, trivial⟩ ?_
              by_cases h15 : q9.1 = 6
              · rw [if_pos h15] at hf
                refine Rt.path ok_M_readLabelled 3 [1] rfl ⟨⟨⟨h10, (show ir 6 by decide)⟩, h15⟩, trivial⟩ ?_
                exact Rt.weak ((rl_M_readLabelled_50 d _ _ _ _ _ _).2.1 hf) ⟨rfl, rfl, rfl, trivial⟩
              · rw [if_neg h15] at hf
                refine Rt.path ok_M_readLabelled 3 [0] rfl ⟨⟨⟨h10, (show ir 6 by decide)⟩, h15⟩, trivial⟩ ?_
                by_cases h16 : q9.1 = 7
                · rw [if_pos h16] at hf
                  refine Rt.path ok_M_readLabelled 3 [0] rfl ⟨⟨⟨h10, (show ir 7 by decide)⟩, h16⟩, trivial⟩ ?_
                  exact Rt.weak ((rl_M_readLabelled_50 d _ _ _ _ _ _).2.1 hf) ⟨rfl, rfl, rfl, trivial⟩
                · rw [if_neg h16] at hf
                  refine Rt.path ok_M_readLabelled 3 [1] rfl ⟨⟨⟨h10, (show ir 7 by decide)⟩, h16⟩, trivial⟩ ?_
                  obtain ⟨q17, e17, hf⟩ := Option.bind_eq_some_iff.mp hf
                  refine Rt.path ok_M_readLabelled 4 [] rfl trivial ?_
                  refine Rt.callV ok_M_readLabelled rfl ml_M_157 [vI _, vI _] cf_M_fail rfl rfl (c_M_fail_50 (d + 7) _ _ _ _ e17) (Nat.le_of_ble_eq_true rfl) ?_
                  exact Rt.weak ((rl_M_readLabelled_50 d _ _ _ _ _ _).2.2.2.2 hf) trivial
  · rw [if_neg h4] at hf
    refine Rt.path ok_M_readLabelled 1 [0] rfl ⟨⟨h3, (Int.not_lt.mp h4)⟩, trivial⟩ ?_
    obtain ⟨q18, e18, hf⟩ := Option.bind_eq_some_iff.mp hf
    refine Rt.path ok_M_readLabelled 4 [] rfl trivial ?_
    refine Rt.callV ok_M_readLabelled rfl ml_M_157 [vI _, vI _] cf_M_fail rfl rfl (c_M_fail_50 (d + 7) _ _ _ _ e18) (Nat.le_of_ble_eq_true rfl) ?_
    cases hf
    exact Rt.retV ok_M_readLabelled rfl rfl
def b_M_readConstants_50_0 (L : Nat → Int → Int → G2 → Option (G2)) (i1 : Int) (i2 : Int) (g : G2) : Option (G2) :=
  if ir (rI g 49 6) then
  if (rI g 49 6) = 0 then
    (f_M_need_50 g).bind fun q6 =>
    if ir q6.1 then
    if q6.1 = 9 then
      if ir i1 then
      if 0 < i1 then
        some (gI q6.2 49 5 ((rI q6.2 49 5) + 1))
      else
        L 1 i1 q6.1 q6.2
      else none
    else
      L 1 i1 q6.1 q6.2
    else none
  else
    some g
  else none
def b_M_readConstants_50_1 (L : Nat → Int → Int → G2 → Option (G2)) (i1 : Int) (i2 : Int) (g : G2) : Option (G2) :=
  if ir i2 then
  if i2 = 0 then
    (f_M_findWord_50 g).bind fun q13 =>
    if ir q13.1 then
    if q13.1 < 0 then
      if ir (rI q13.2 49 8) then
      if (rI q13.2 49 8) = 60 then
        (f_M_fail_50 (-7) (rI q13.2 49 5) q13.2).bind fun q18 =>
        L 2 i1 0 q18
      else
        (f_M_codeOf_50 (rI q13.2 49 5) q13.2).bind fun q19 =>
        (f_M_addName_50 q19.1 q19.2).bind fun q20 =>
        if 0 ≤ q20.1 ∧ q20.1 < 60 then
        L 2 i1 0 (gA q20.2 54 q20.1 1)
        else none
      else none
    else
      (f_M_fail_50 (-4) (rI q13.2 49 5) q13.2).bind fun q22 =>
      L 2 i1 0 q22
    else none
  else
    (f_M_fail_50 (-3) (rI g 49 5) g).bind fun q23 =>
    some q23
  else none
def b_M_readConstants_50_2 (L : Nat → Int → Int → G2 → Option (G2)) (i1 : Int) (i2 : Int) (g : G2) : Option (G2) :=
  L 0 (i1 + 1) 0 (gI g 49 5 ((rI g 49 5) + 1))
def l_M_readConstants_50 : Nat → Nat → Int → Int → G2 → Option (G2)
  | 0 => fun _ _ _ _ => none
  | n + 1 => fun t i1 i2 g => match t with
    | 0 => b_M_readConstants_50_0 (l_M_readConstants_50 n) i1 i2 g
    | 1 => b_M_readConstants_50_1 (l_M_readConstants_50 n) i1 i2 g
    | _ => b_M_readConstants_50_2 (l_M_readConstants_50 n) i1 i2 g
set_option maxHeartbeats 4000000 in
set_option maxRecDepth 100000 in
theorem rl_M_readConstants_50 (d : Nat) : ∀ (n : Nat) (i1 : Int) (i2 : Int) (g : G2) (g' : G2), (l_M_readConstants_50 n 0 i1 i2 g = some g' → Rt (d + 4) m_M_readConstants 30 [some (vR 50), some (vI i1), none] [] g none g') ∧ (l_M_readConstants_50 n 1 i1 i2 g = some g' → Rt (d + 4) m_M_readConstants 63 [some (vR 50), some (vI i1), some (vI i2)] [] g none g') ∧ (l_M_readConstants_50 n 2 i1 i2 g = some g' → Rt (d + 4) m_M_readConstants 138 [some (vR 50), some (vI i1), none] [] g none g') := by
  intro n
  induction n with
  | zero => intro i1 i2 g g'; exact ⟨fun hf => (by cases hf), fun hf => (by cases hf), fun hf => (by cases hf)⟩
  | succ n ih =>
    intro i1 i2 g g'
    refine ⟨?_, ?_, ?_⟩
    · intro hf
      replace hf : b_M_readConstants_50_0 (l_M_readConstants_50 n) i1 i2 g = some g' := hf
      unfold b_M_readConstants_50_0 at hf
      have h4 : ir (rI g 49 6) := by
        by_cases q : ir (rI g 49 6)
        · exact q
        · rw [if_neg q] at hf; cases hf
      rw [if_pos h4] at hf
      by_cases h5 : (rI g 49 6) = 0
      · rw [if_pos h5] at hf
        refine Rt.path ok_M_readConstants 3 [0] rfl ⟨⟨h4, h5⟩, trivial⟩ ?_
        obtain ⟨q6, e6, hf⟩ := Option.bind_eq_some_iff.mp hf
        refine Rt.path ok_M_readConstants 1 [] rfl trivial ?_
        refine Rt.callV ok_M_readConstants rfl ml_M_169 [] cf_M_need rfl rfl (c_M_need_50 d _ _ _ e6) (Nat.le_of_ble_eq_true rfl) ?_
        have h7 : ir q6.1 := by
          by_cases q : ir q6.1
          · exact q
          · rw [if_neg q] at hf; cases hf
        rw [if_pos h7] at hf
        by_cases h8 : q6.1 = 9
        · rw [if_pos h8] at hf
          refine Rt.path ok_M_readConstants 4 [0] rfl ⟨⟨⟨h7, (show ir 9 by decide)⟩, h8⟩, trivial⟩ ?_
          have h9 : ir i1 := by
            by_cases q : ir i1
            · exact q
            · rw [if_neg q] at hf; cases hf
          rw [if_pos h9] at hf
          by_cases h10 : 0 < i1
          · rw [if_pos h10] at hf
            refine Rt.path ok_M_readConstants 2 [0] rfl ⟨⟨h9, h10⟩, trivial⟩ ?_
            cases hf
            refine Rt.path ok_M_readConstants 6 [] rfl trivial ?_
            exact Rt.retV ok_M_readConstants rfl rfl
          · rw [if_neg h10] at hf
            refine Rt.path ok_M_readConstants 2 [1] rfl ⟨⟨h9, (Int.not_lt.mp h10)⟩, trivial⟩ ?_
            exact Rt.weak ((ih _ _ _ _).2.1 hf) ⟨rfl, rfl, rfl, trivial⟩
        · rw [if_neg h8] at hf
          refine Rt.path ok_M_readConstants 4 [1] rfl ⟨⟨⟨h7, (show ir 9 by decide)⟩, h8⟩, trivial⟩ ?_
          exact Rt.weak ((ih _ _ _ _).2.1 hf) ⟨rfl, rfl, rfl, trivial⟩
      · rw [if_neg h5] at hf
        refine Rt.path ok_M_readConstants 3 [1] rfl ⟨⟨h4, h5⟩, trivial⟩ ?_
        cases hf
        exact Rt.retV ok_M_readConstants rfl rfl
    · intro hf
      replace hf : b_M_readConstants_50_1 (l_M_readConstants_50 n) i1 i2 g = some g' := hf
      unfold b_M_readConstants_50_1 at hf
      have h11 : ir i2 := by
        by_cases q : ir i2
        · exact q
        · rw [if_neg q] at hf; cases hf
      rw [if_pos h11] at hf
      by_cases h12 : i2 = 0
      · rw [if_pos h12] at hf
        refine Rt.path ok_M_readConstants 2 [1] rfl ⟨⟨h11, h12⟩, trivial⟩ ?_
        obtain ⟨q13, e13, hf⟩ := Option.bind_eq_some_iff.mp hf
        refine Rt.path ok_M_readConstants 1 [] rfl trivial ?_
        refine Rt.callV ok_M_readConstants rfl ml_M_190 [] cf_M_findWord rfl rfl (c_M_findWord_50 (d + 1) _ _ _ e13) (Nat.le_of_ble_eq_true rfl) ?_
        have h14 : ir q13.1 := by
          by_cases q : ir q13.1
          · exact q
          · rw [if_neg q] at hf; cases hf
        rw [if_pos h14] at hf
        by_cases h15 : q13.1 < 0
        · rw [if_pos h15] at hf
          refine Rt.path ok_M_readConstants 1 [1] rfl ⟨⟨h14, h15⟩, trivial⟩ ?_
          have h16 : ir (rI q13.2 49 8) := by
            by_cases q : ir (rI q13.2 49 8)
            · exact q
            · rw [if_neg q] at hf; cases hf
          rw [if_pos h16] at hf
          by_cases h17 : (rI q13.2 49 8) = 60
          · rw [if_pos h17] at hf
            refine Rt.path ok_M_readConstants 4 [0] rfl ⟨⟨⟨h16, (show ir 60 by decide)⟩, h17⟩, trivial⟩ ?_
            obtain ⟨q18, e18, hf⟩ := Option.bind_eq_some_iff.mp hf
            refine Rt.path ok_M_readConstants 4 [] rfl trivial ?_
            refine Rt.callV ok_M_readConstants rfl ml_M_157 [vI _, vI _] cf_M_fail rfl rfl (c_M_fail_50 (d + 3) _ _ _ _ e18) (Nat.le_of_ble_eq_true rfl) ?_
            refine Rt.path ok_M_readConstants 1 [] rfl trivial ?_
            exact Rt.weak ((ih _ _ _ _).2.2 hf) ⟨rfl, rfl, trivial⟩
          · rw [if_neg h17] at hf
            refine Rt.path ok_M_readConstants 4 [1] rfl ⟨⟨⟨h16, (show ir 60 by decide)⟩, h17⟩, trivial⟩ ?_
            obtain ⟨q19, e19, hf⟩ := Option.bind_eq_some_iff.mp hf
            refine Rt.path ok_M_readConstants 6 [] rfl trivial ?_
            refine Rt.callV ok_M_readConstants rfl ml_M_176 [vI _] cf_M_codeOf rfl rfl (c_M_codeOf_50 (d + 2) _ _ _ _ e19) (Nat.le_of_ble_eq_true rfl) ?_
            obtain ⟨q20, e20, hf⟩ := Option.bind_eq_some_iff.mp hf
            refine Rt.callV ok_M_readConstants rfl ml_M_193 [vL _] cf_M_addName rfl rfl (c_M_addName_50 (d + 3) _ _ _ _ e20) (Nat.le_of_ble_eq_true rfl) ?_
            have h21 : 0 ≤ q20.1 ∧ q20.1 < 60 := by
              by_cases q : 0 ≤ q20.1 ∧ q20.1 < 60
              · exact q
              · rw [if_neg q] at hf; cases hf
            rw [if_pos h21] at hf
            refine Rt.path ok_M_readConstants 2 [] rfl ⟨(ix_60 h21), trivial⟩ ?_
            exact Rt.weak ((ih _ _ _ _).2.2 hf) ⟨rfl, rfl, trivial⟩
        · rw [if_neg h15] at hf
          refine Rt.path ok_M_readConstants 1 [0] rfl ⟨⟨h14, (Int.not_lt.mp h15)⟩, trivial⟩ ?_
          obtain ⟨q22, e22, hf⟩ := Option.bind_eq_some_iff.mp hf
          refine Rt.path ok_M_readConstants 4 [] rfl trivial ?_
          refine Rt.callV ok_M_readConstants rfl ml_M_157 [vI _, vI _] cf_M_fail rfl rfl (c_M_fail_50 (d + 3) _ _ _ _ e22) (Nat.le_of_ble_eq_true rfl) ?_
          refine Rt.path ok_M_readConstants 1 [] rfl trivial ?_
          exact Rt.weak ((ih _ _ _ _).2.2 hf) ⟨rfl, rfl, trivial⟩
      · rw [if_neg h12] at hf
        refine Rt.path ok_M_readConstants 2 [0] rfl ⟨⟨h11, h12⟩, trivial⟩ ?_
        obtain ⟨q23, e23, hf⟩ := Option.bind_eq_some_iff.mp hf
        refine Rt.path ok_M_readConstants 4 [] rfl trivial ?_
        refine Rt.callV ok_M_readConstants rfl ml_M_157 [vI _, vI _] cf_M_fail rfl rfl (c_M_fail_50 (d + 3) _ _ _ _ e23) (Nat.le_of_ble_eq_true rfl) ?_
        cases hf
        exact Rt.retV ok_M_readConstants rfl rfl
    · intro hf
      replace hf : b_M_readConstants_50_2 (l_M_readConstants_50 n) i1 i2 g = some g' := hf
      unfold b_M_readConstants_50_2 at hf
      refine Rt.path ok_M_readConstants 8 [] rfl trivial ?_
      exact Rt.weak ((ih _ _ _ _).1 hf) ⟨rfl, rfl, trivial⟩
def f_M_readConstants_50  (g : G2) : Option (G2) :=
  if ir (rI g 49 14) then
  if 0 < (rI g 49 14) then
    (f_M_fail_50 (-5) (rI g 49 5) g).bind fun q3 =>
    some q3
  else
    l_M_readConstants_50 20000 0 0 0 (gI g 49 5 ((rI g 49 5) + 1))
  else none
set_option maxHeartbeats 4000000 in
set_option maxRecDepth 100000 in
theorem c_M_readConstants_50 (d : Nat)  (g : G2) (g' : G2) (hf : f_M_readConstants_50 g = some g') : C2 (d + 4) m_M_readConstants [vR 50] g none g' := by
  unfold f_M_readConstants_50 at hf
  refine C2.of rfl rfl rfl (Nat.le_of_ble_eq_true rfl) ?_
  have h1 : ir (rI g 49 14) := by
    by_cases q : ir (rI g 49 14)
    · exact q
    · rw [if_neg q] at hf; cases hf
  rw [if_pos h1] at hf
  by_cases h2 : 0 < (rI g 49 14)
  · rw [if_pos h2] at hf
    refine Rt.path ok_M_readConstants 3 [0] rfl ⟨⟨h1, h2⟩, trivial⟩ ?_
    obtain ⟨q3, e3, hf⟩ := Option.bind_eq_some_iff.mp hf
    refine Rt.path ok_M_readConstants 4 [] rfl trivial ?_
    refine Rt.callV ok_M_readConstants rfl ml_M_157 [vI _, vI _] cf_M_fail rfl rfl (c_M_fail_50 (d + 3) _ _ _ _ e3) (Nat.le_of_ble_eq_true rfl) ?_
    cases hf
    exact Rt.retV ok_M_readConstants rfl rfl
  · rw [if_neg h2] at hf
    refine Rt.path ok_M_readConstants 3 [1] rfl ⟨⟨h1, (Int.not_lt.mp h2)⟩, trivial⟩ ?_
    refine Rt.path ok_M_readConstants 8 [] rfl trivial ?_
    exact Rt.weak ((rl_M_readConstants_50 d _ _ _ _ _).1 hf) ⟨rfl, rfl, trivial⟩
