def b_M_readLetters_50_0 (L : Nat → Int → Int → G2 → Option (G2)) (i1 : Int) (i3 : Int) (g : G2) : Option (G2) :=
  if ir (rI g 49 6) then
  if (rI g 49 6) = 0 then
    bd (f_M_need_50 g) fun r3 g3 =>
    if ir r3 then
    if r3 = 9 then
      if ir (rI g3 49 55) then
      if (rI g3 49 55) = 0 then
        L 1 0 0 g3
      else
        (f_M_fail_50 (-8) (rI g3 49 5) g3).bind fun g8 =>
        L 1 0 0 g8
      else none
    else
      if r3 = 0 then
        bd (f_M_isLetters_50 g3) fun r10 g10 =>
        if ir r10 then
        if r10 = 0 then
          L 2 i1 0 g10
        else
          L 3 i1 0 g10
        else none
      else
        L 2 i1 0 g3
    else none
  else
    some g
  else none
def b_M_readLetters_50_1 (L : Nat → Int → Int → G2 → Option (G2)) (i1 : Int) (i3 : Int) (g : G2) : Option (G2) :=
  some g
def b_M_readLetters_50_2 (L : Nat → Int → Int → G2 → Option (G2)) (i1 : Int) (i3 : Int) (g : G2) : Option (G2) :=
  (f_M_fail_50 (-3) (rI g 49 5) g).bind fun g13 =>
  L 3 i1 0 g13
def b_M_readLetters_50_3 (L : Nat → Int → Int → G2 → Option (G2)) (i1 : Int) (i3 : Int) (g : G2) : Option (G2) :=
  L 4 i1 0 g
def b_M_readLetters_50_4 (L : Nat → Int → Int → G2 → Option (G2)) (i1 : Int) (i3 : Int) (g : G2) : Option (G2) :=
  if ir (rI g 49 6) then
  if (rI g 49 6) = 0 then
    if 0 ≤ (rI g 49 5) ∧ (rI g 49 5) < 801 then
    if ir i3 then
    if ir (rA g 52 (rI g 49 5)) then
    if i3 < (rA g 52 (rI g 49 5)) then
      bd (f_M_letter_50 (rI g 49 5) i3 g) fun r20 g20 =>
      (f_M_readLetter_50 i1 r20 g20).bind fun g21 =>
      L 4 i1 (i3 + 1) g21
    else
      L 5 i1 0 g
    else none
    else none
    else none
  else
    L 5 i1 0 g
  else none
def b_M_readLetters_50_5 (L : Nat → Int → Int → G2 → Option (G2)) (i1 : Int) (i3 : Int) (g : G2) : Option (G2) :=
  L 0 i1 0 (gI g 49 5 ((rI g 49 5) + 1))
def l_M_readLetters_50 : Nat → Nat → Int → Int → G2 → Option (G2)
  | 0 => fun _ _ _ _ => none
  | n + 1 => fun t i1 i3 g => match t with
    | 0 => b_M_readLetters_50_0 (l_M_readLetters_50 n) i1 i3 g
    | 1 => b_M_readLetters_50_1 (l_M_readLetters_50 n) i1 i3 g
    | 2 => b_M_readLetters_50_2 (l_M_readLetters_50 n) i1 i3 g
    | 3 => b_M_readLetters_50_3 (l_M_readLetters_50 n) i1 i3 g
    | 4 => b_M_readLetters_50_4 (l_M_readLetters_50 n) i1 i3 g
    | _ => b_M_readLetters_50_5 (l_M_readLetters_50 n) i1 i3 g
set_option maxHeartbeats 4000000 in
set_option maxRecDepth 100000 in
theorem rl_M_readLetters_50 (d : Nat) : ∀ (n : Nat) (i1 : Int) (i3 : Int) (g : G2) (g' : G2), (l_M_readLetters_50 n 0 i1 i3 g = some g' → Rt (d + 6) m_M_readLetters 15 [some (vR 50), some (vI i1), none, none] [] g none g') ∧ (l_M_readLetters_50 n 1 i1 i3 g = some g' → Rt (d + 6) m_M_readLetters 50 [none, none, none, none] [] g none g') ∧ (l_M_readLetters_50 n 2 i1 i3 g = some g' → Rt (d + 6) m_M_readLetters 62 [some (vR 50), some (vI i1), none, none] [] g none g') ∧ (l_M_readLetters_50 n 3 i1 i3 g = some g' → Rt (d + 6) m_M_readLetters 72 [some (vR 50), some (vI i1), none, none] [] g none g') ∧ (l_M_readLetters_50 n 4 i1 i3 g = some g' → Rt (d + 6) m_M_readLetters 74 [some (vR 50), some (vI i1), none, some (vI i3)] [] g none g') ∧ (l_M_readLetters_50 n 5 i1 i3 g = some g' → Rt (d + 6) m_M_readLetters 114 [some (vR 50), some (vI i1), none, none] [] g none g') := by
  intro n
  induction n with
  | zero => intro i1 i3 g g'; exact ⟨fun hf => (by cases hf), fun hf => (by cases hf), fun hf => (by cases hf), fun hf => (by cases hf), fun hf => (by cases hf), fun hf => (by cases hf)⟩
  | succ n ih =>
    intro i1 i3 g g'
    refine ⟨?_, ?_, ?_, ?_, ?_, ?_⟩
    · intro hf
      replace hf : b_M_readLetters_50_0 (l_M_readLetters_50 n) i1 i3 g = some g' := hf
      unfold b_M_readLetters_50_0 at hf
      have h1 : ir (rI g 49 6) := by
        by_cases q : ir (rI g 49 6)
        · exact q
        · rw [if_neg q] at hf; cases hf
      rw [if_pos h1] at hf
      by_cases h2 : (rI g 49 6) = 0
      · rw [if_pos h2] at hf
        refine Rt.path ok_M_readLetters 3 [0] rfl ⟨⟨h1, h2⟩, trivial⟩ ?_
        obtain ⟨r3, g3, e3, hf⟩ := bd_inv hf
        refine Rt.path ok_M_readLetters 1 [] rfl trivial ?_
        refine Rt.callV ok_M_readLetters rfl ml_M_169 [] cf_M_need rfl rfl (c_M_need_50 (d + 2) _ _ _ e3) (Nat.le_of_ble_eq_true rfl) ?_
        have h4 : ir r3 := by
          by_cases q : ir r3
          · exact q
          · rw [if_neg q] at hf; cases hf
        rw [if_pos h4] at hf
        by_cases h5 : r3 = 9
        · rw [if_pos h5] at hf
          refine Rt.path ok_M_readLetters 4 [0] rfl ⟨⟨⟨h4, (show ir 9 by decide)⟩, h5⟩, trivial⟩ ?_
          have h6 : ir (rI g3 49 55) := by
            by_cases q : ir (rI g3 49 55)
            · exact q
            · rw [if_neg q] at hf; cases hf
          rw [if_pos h6] at hf
          by_cases h7 : (rI g3 49 55) = 0
          · rw [if_pos h7] at hf
            refine Rt.path ok_M_readLetters 3 [1] rfl ⟨⟨h6, h7⟩, trivial⟩ ?_
            exact Rt.weak ((ih _ _ _ _).2.1 hf) trivial
          · rw [if_neg h7] at hf
            refine Rt.path ok_M_readLetters 3 [0] rfl ⟨⟨h6, h7⟩, trivial⟩ ?_
            obtain ⟨g8, e8, hf⟩ := Option.bind_eq_some_iff.mp hf
            refine Rt.path ok_M_readLetters 4 [] rfl trivial ?_
            refine Rt.callV ok_M_readLetters rfl ml_M_157 [vI _, vI _] cf_M_fail rfl rfl (c_M_fail_50 (d + 5) _ _ _ _ e8) (Nat.le_of_ble_eq_true rfl) ?_
            exact Rt.weak ((ih _ _ _ _).2.1 hf) trivial
        · rw [if_neg h5] at hf
          refine Rt.path ok_M_readLetters 4 [1] rfl ⟨⟨⟨h4, (show ir 9 by decide)⟩, h5⟩, trivial⟩ ?_
          by_cases h9 : r3 = 0
          · rw [if_pos h9] at hf
            refine Rt.path ok_M_readLetters 2 [0] rfl ⟨⟨h4, h9⟩, trivial⟩ ?_
            obtain ⟨r10, g10, e10, hf⟩ := bd_inv hf
            refine Rt.path ok_M_readLetters 1 [] rfl trivial ?_
            refine Rt.callV ok_M_readLetters rfl ml_M_326 [] cf_M_isLetters rfl rfl (c_M_isLetters_50 (d + 4) _ _ _ e10) (Nat.le_of_ble_eq_true rfl) ?_
            have h11 : ir r10 := by
              by_cases q : ir r10
              · exact q
              · rw [if_neg q] at hf; cases hf
            rw [if_pos h11] at hf
            by_cases h12 : r10 = 0
            · rw [if_pos h12] at hf
              refine Rt.path ok_M_readLetters 1 [0] rfl ⟨⟨h11, h12⟩, trivial⟩ ?_
              exact Rt.weak ((ih _ _ _ _).2.2.1 hf) ⟨rfl, rfl, trivial⟩
            · rw [if_neg h12] at hf
              refine Rt.path ok_M_readLetters 1 [1] rfl ⟨⟨h11, h12⟩, trivial⟩ ?_
              exact Rt.weak ((ih _ _ _ _).2.2.2.1 hf) ⟨rfl, rfl, trivial⟩
          · rw [if_neg h9] at hf
            refine Rt.path ok_M_readLetters 2 [1] rfl ⟨⟨h4, h9⟩, trivial⟩ ?_
            exact Rt.weak ((ih _ _ _ _).2.2.1 hf) ⟨rfl, rfl, trivial⟩
      · rw [if_neg h2] at hf
        refine Rt.path ok_M_readLetters 3 [1] rfl ⟨⟨h1, h2⟩, trivial⟩ ?_
        cases hf
        exact Rt.retV ok_M_readLetters rfl rfl
    · intro hf
      replace hf : b_M_readLetters_50_1 (l_M_readLetters_50 n) i1 i3 g = some g' := hf
      unfold b_M_readLetters_50_1 at hf
      cases hf
      exact Rt.retV ok_M_readLetters rfl rfl
    · intro hf
      replace hf : b_M_readLetters_50_2 (l_M_readLetters_50 n) i1 i3 g = some g' := hf
      unfold b_M_readLetters_50_2 at hf
      obtain ⟨g13, e13, hf⟩ := Option.bind_eq_some_iff.mp hf
      refine Rt.path ok_M_readLetters 4 [] rfl trivial ?_
      refine Rt.callV ok_M_readLetters rfl ml_M_157 [vI _, vI _] cf_M_fail rfl rfl (c_M_fail_50 (d + 5) _ _ _ _ e13) (Nat.le_of_ble_eq_true rfl) ?_
      exact Rt.weak ((ih _ _ _ _).2.2.2.1 hf) ⟨rfl, rfl, trivial⟩
    · intro hf
      replace hf : b_M_readLetters_50_3 (l_M_readLetters_50 n) i1 i3 g = some g' := hf
      unfold b_M_readLetters_50_3 at hf
      refine Rt.path ok_M_readLetters 2 [] rfl trivial ?_
      exact Rt.weak ((ih _ _ _ _).2.2.2.2.1 hf) ⟨rfl, rfl, rfl, trivial⟩
    · intro hf
      replace hf : b_M_readLetters_50_4 (l_M_readLetters_50 n) i1 i3 g = some g' := hf
      unfold b_M_readLetters_50_4 at hf
      have h14 : ir (rI g 49 6) := by
        by_cases q : ir (rI g 49 6)
        · exact q
        · rw [if_neg q] at hf; cases hf
      rw [if_pos h14] at hf
      by_cases h15 : (rI g 49 6) = 0
      · rw [if_pos h15] at hf
        refine Rt.path ok_M_readLetters 3 [0] rfl ⟨⟨h14, h15⟩, trivial⟩ ?_
        have h16 : 0 ≤ (rI g 49 5) ∧ (rI g 49 5) < 801 := by
          by_cases q : 0 ≤ (rI g 49 5) ∧ (rI g 49 5) < 801
          · exact q
          · rw [if_neg q] at hf; cases hf
        rw [if_pos h16] at hf
        have h17 : ir i3 := by
          by_cases q : ir i3
          · exact q
          · rw [if_neg q] at hf; cases hf
        rw [if_pos h17] at hf
        have h18 : ir (rA g 52 (rI g 49 5)) := by
          by_cases q : ir (rA g 52 (rI g 49 5))
          · exact q
          · rw [if_neg q] at hf; cases hf
        rw [if_pos h18] at hf
        by_cases h19 : i3 < (rA g 52 (rI g 49 5))
        · rw [if_pos h19] at hf
          refine Rt.path ok_M_readLetters 7 [0] rfl ⟨(ix_801 h16), ⟨⟨h17, h18⟩, h19⟩, trivial⟩ ?_
          obtain ⟨r20, g20, e20, hf⟩ := bd_inv hf
          refine Rt.path ok_M_readLetters 6 [] rfl trivial ?_
          refine Rt.callV ok_M_readLetters rfl ml_M_141 [vI _, vI _] cf_M_letter rfl rfl (c_M_letter_50 (d + 5) _ _ _ _ _ e20) (Nat.le_of_ble_eq_true rfl) ?_
          obtain ⟨g21, e21, hf⟩ := Option.bind_eq_some_iff.mp hf
          refine Rt.callV ok_M_readLetters rfl ml_M_329 [vI _, vI _] cf_M_readLetter rfl rfl (c_M_readLetter_50 d _ _ _ _ e21) (Nat.le_of_ble_eq_true rfl) ?_
          refine Rt.path ok_M_readLetters 2 [] rfl trivial ?_
          exact Rt.weak ((ih _ _ _ _).2.2.2.2.1 hf) ⟨rfl, rfl, rfl, trivial⟩
        · rw [if_neg h19] at hf
          refine Rt.path ok_M_readLetters 7 [1] rfl ⟨(ix_801 h16), ⟨⟨h17, h18⟩, (Int.not_lt.mp h19)⟩, trivial⟩ ?_
          exact Rt.weak ((ih _ _ _ _).2.2.2.2.2 hf) ⟨rfl, rfl, trivial⟩
      · rw [if_neg h15] at hf
        refine Rt.path ok_M_readLetters 3 [1] rfl ⟨⟨h14, h15⟩, trivial⟩ ?_
        exact Rt.weak ((ih _ _ _ _).2.2.2.2.2 hf) ⟨rfl, rfl, trivial⟩
    · intro hf
      replace hf : b_M_readLetters_50_5 (l_M_readLetters_50 n) i1 i3 g = some g' := hf
      unfold b_M_readLetters_50_5 at hf
      refine Rt.path ok_M_readLetters 7 [] rfl trivial ?_
      exact Rt.weak ((ih _ _ _ _).1 hf) ⟨rfl, rfl, trivial⟩
def f_M_readLetters_50 (a1 : Int) (g : G2) : Option (G2) :=
  l_M_readLetters_50 20000 0 a1 0 (gI (gI (gI g 49 54 0) 49 55 0) 49 56 0)
set_option maxHeartbeats 4000000 in
set_option maxRecDepth 100000 in
theorem c_M_readLetters_50 (d : Nat) (a1 : Int) (g : G2) (g' : G2) (hf : f_M_readLetters_50 a1 g = some g') : C2 (d + 6) m_M_readLetters [vR 50, vI a1] g none g' := by
  unfold f_M_readLetters_50 at hf
  refine C2.of rfl rfl rfl (Nat.le_of_ble_eq_true rfl) ?_
  refine Rt.path ok_M_readLetters 9 [] rfl ⟨(show (0 : Int) = 0 ∨ (0 : Int) = 1 by decide), (show (0 : Int) = 0 ∨ (0 : Int) = 1 by decide), trivial⟩ ?_
  exact Rt.weak ((rl_M_readLetters_50 d _ _ _ _ _).1 hf) ⟨rfl, rfl, trivial⟩
def f_M_readProof_50 (a1 : Int) (g : G2) : Option (G2) :=
  bd (f_M_need_50 g) fun r1 g1 =>
  if ir r1 then
  if r1 = 0 then
    bd (f_M_isWord_50 40 g1) fun r4 g4 =>
    if ir r4 then
    if r4 = 0 then
      (f_M_readSteps_50 a1 g4).bind fun g7 =>
      if ir (rI g7 49 6) then
      if (rI g7 49 6) = 0 then
        (f_M_finish_50 g7).bind fun g10 =>
        some g10
      else
        some g7
      else none
    else
      (f_M_readListed_50 a1 (gI g4 49 5 ((rI g4 49 5) + 1))).bind fun g11 =>
      if ir (rI g11 49 6) then
      if (rI g11 49 6) = 0 then
        (f_M_readLetters_50 a1 g11).bind fun g14 =>
        if ir (rI g14 49 6) then
        if (rI g14 49 6) = 0 then
          (f_M_finish_50 g14).bind fun g17 =>
          some g17
        else
          some g14
        else none
      else
        if (rI g11 49 6) = 0 then
          (f_M_finish_50 g11).bind fun g19 =>
          some g19
        else
          some g11
      else none
    else none
  else
    (f_M_readSteps_50 a1 g1).bind fun g20 =>
    if ir (rI g20 49 6) then
    if (rI g20 49 6) = 0 then
      (f_M_finish_50 g20).bind fun g23 =>
      some g23
    else
      some g20
    else none
  else none
set_option maxHeartbeats 4000000 in
set_option maxRecDepth 100000 in
theorem c_M_readProof_50 (d : Nat) (a1 : Int) (g : G2) (g' : G2) (hf : f_M_readProof_50 a1 g = some g') : C2 (d + 7) m_M_readProof [vR 50, vI a1] g none g' := by
  unfold f_M_readProof_50 at hf
  refine C2.of rfl rfl rfl (Nat.le_of_ble_eq_true rfl) ?_
  obtain ⟨r1, g1, e1, hf⟩ := bd_inv hf
  refine Rt.path ok_M_readProof 1 [] rfl trivial ?_
  refine Rt.callV ok_M_readProof rfl ml_M_169 [] cf_M_need rfl rfl (c_M_need_50 (d + 3) _ _ _ e1) (Nat.le_of_ble_eq_true rfl) ?_
  have h2 : ir r1 := by
    by_cases q : ir r1
    · exact q
    · rw [if_neg q] at hf; cases hf
  rw [if_pos h2] at hf
  by_cases h3 : r1 = 0
  · rw [if_pos h3] at hf
    refine Rt.path ok_M_readProof 3 [0] rfl ⟨⟨h2, h3⟩, trivial⟩ ?_
    obtain ⟨r4, g4, e4, hf⟩ := bd_inv hf
    refine Rt.path ok_M_readProof 2 [] rfl trivial ?_
    refine Rt.callV ok_M_readProof rfl ml_M_290 [vI _] cf_M_isWord rfl rfl (c_M_isWord_50 (d + 5) _ _ _ _ e4) (Nat.le_of_ble_eq_true rfl) ?_
    have h5 : ir r4 := by
      by_cases q : ir r4
      · exact q
      · rw [if_neg q] at hf; cases hf
    rw [if_pos h5] at hf
    by_cases h6 : r4 = 0
    · rw [if_pos h6] at hf
      refine Rt.path ok_M_readProof 1 [1] rfl ⟨⟨h5, h6⟩, trivial⟩ ?_
      obtain ⟨g7, e7, hf⟩ := Option.bind_eq_some_iff.mp hf
      refine Rt.path ok_M_readProof 2 [] rfl trivial ?_
      refine Rt.callV ok_M_readProof rfl ml_M_299 [vI _] cf_M_readSteps rfl rfl (c_M_readSteps_50 (d + 2) _ _ _ e7) (Nat.le_of_ble_eq_true rfl) ?_
      have h8 : ir (rI g7 49 6) := by
        by_cases q : ir (rI g7 49 6)
        · exact q
        · rw [if_neg q] at hf; cases hf
      rw [if_pos h8] at hf
      by_cases h9 : (rI g7 49 6) = 0
      · rw [if_pos h9] at hf
        refine Rt.path ok_M_readProof 3 [0] rfl ⟨⟨h8, h9⟩, trivial⟩ ?_
        obtain ⟨g10, e10, hf⟩ := Option.bind_eq_some_iff.mp hf
        refine Rt.path ok_M_readProof 1 [] rfl trivial ?_
        refine Rt.callV ok_M_readProof rfl ml_M_302 [] cf_M_finish rfl rfl (c_M_finish_50 (d + 5) _ _ e10) (Nat.le_of_ble_eq_true rfl) ?_
        cases hf
        exact Rt.retV ok_M_readProof rfl rfl
      · rw [if_neg h9] at hf
        refine Rt.path ok_M_readProof 3 [1] rfl ⟨⟨h8, h9⟩, trivial⟩ ?_
        cases hf
        exact Rt.retV ok_M_readProof rfl rfl
    · rw [if_neg h6] at hf
      refine Rt.path ok_M_readProof 1 [0] rfl ⟨⟨h5, h6⟩, trivial⟩ ?_
      obtain ⟨g11, e11, hf⟩ := Option.bind_eq_some_iff.mp hf
      refine Rt.path ok_M_readProof 8 [] rfl trivial ?_
      refine Rt.callV ok_M_readProof rfl ml_M_293 [vI _] cf_M_readListed rfl rfl (c_M_readListed_50 (d + 1) _ _ _ e11) (Nat.le_of_ble_eq_true rfl) ?_
      have h12 : ir (rI g11 49 6) := by
        by_cases q : ir (rI g11 49 6)
        · exact q
        · rw [if_neg q] at hf; cases hf
      rw [if_pos h12] at hf
      by_cases h13 : (rI g11 49 6) = 0
      · rw [if_pos h13] at hf
        refine Rt.path ok_M_readProof 3 [0] rfl ⟨⟨h12, h13⟩, trivial⟩ ?_
        obtain ⟨g14, e14, hf⟩ := Option.bind_eq_some_iff.mp hf
        refine Rt.path ok_M_readProof 2 [] rfl trivial ?_
        refine Rt.callV ok_M_readProof rfl ml_M_296 [vI _] cf_M_readLetters rfl rfl (c_M_readLetters_50 d _ _ _ e14) (Nat.le_of_ble_eq_true rfl) ?_
        have h15 : ir (rI g14 49 6) := by
          by_cases q : ir (rI g14 49 6)
          · exact q
          · rw [if_neg q] at hf; cases hf
        rw [if_pos h15] at hf
        by_cases h16 : (rI g14 49 6) = 0
        · rw [if_pos h16] at hf
          refine Rt.path ok_M_readProof 4 [0] rfl ⟨⟨h15, h16⟩, trivial⟩ ?_
          obtain ⟨g17, e17, hf⟩ := Option.bind_eq_some_iff.mp hf
          refine Rt.path ok_M_readProof 1 [] rfl trivial ?_
          refine Rt.callV ok_M_readProof rfl ml_M_302 [] cf_M_finish rfl rfl (c_M_finish_50 (d + 5) _ _ e17) (Nat.le_of_ble_eq_true rfl) ?_
          cases hf
          exact Rt.retV ok_M_readProof rfl rfl
        · rw [if_neg h16] at hf
          refine Rt.path ok_M_readProof 4 [1] rfl ⟨⟨h15, h16⟩, trivial⟩ ?_
          cases hf
          exact Rt.retV ok_M_readProof rfl rfl
      · rw [if_neg h13] at hf
        refine Rt.path ok_M_readProof 3 [1] rfl ⟨⟨h12, h13⟩, trivial⟩ ?_
        by_cases h18 : (rI g11 49 6) = 0
        · rw [if_pos h18] at hf
          refine Rt.path ok_M_readProof 3 [0] rfl ⟨⟨h12, h18⟩, trivial⟩ ?_
          obtain ⟨g19, e19, hf⟩ := Option.bind_eq_some_iff.mp hf
          refine Rt.path ok_M_readProof 1 [] rfl trivial ?_
          refine Rt.callV ok_M_readProof rfl ml_M_302 [] cf_M_finish rfl rfl (c_M_finish_50 (d + 5) _ _ e19) (Nat.le_of_ble_eq_true rfl) ?_
          cases hf
          exact Rt.retV ok_M_readProof rfl rfl
        · rw [if_neg h18] at hf
          refine Rt.path ok_M_readProof 3 [1] rfl ⟨⟨h12, h18⟩, trivial⟩ ?_
          cases hf
          exact Rt.retV ok_M_readProof rfl rfl
  · rw [if_neg h3] at hf
    refine Rt.path ok_M_readProof 3 [1] rfl ⟨⟨h2, h3⟩, trivial⟩ ?_
    obtain ⟨g20, e20, hf⟩ := Option.bind_eq_some_iff.mp hf
    refine Rt.path ok_M_readProof 2 [] rfl trivial ?_
    refine Rt.callV ok_M_readProof rfl ml_M_299 [vI _] cf_M_readSteps rfl rfl (c_M_readSteps_50 (d + 2) _ _ _ e20) (Nat.le_of_ble_eq_true rfl) ?_
    have h21 : ir (rI g20 49 6) := by
      by_cases q : ir (rI g20 49 6)
      · exact q
      · rw [if_neg q] at hf; cases hf
    rw [if_pos h21] at hf
    by_cases h22 : (rI g20 49 6) = 0
    · rw [if_pos h22] at hf
      refine Rt.path ok_M_readProof 3 [0] rfl ⟨⟨h21, h22⟩, trivial⟩ ?_
      obtain ⟨g23, e23, hf⟩ := Option.bind_eq_some_iff.mp hf
      refine Rt.path ok_M_readProof 1 [] rfl trivial ?_
      refine Rt.callV ok_M_readProof rfl ml_M_302 [] cf_M_finish rfl rfl (c_M_finish_50 (d + 5) _ _ e23) (Nat.le_of_ble_eq_true rfl) ?_
      cases hf
      exact Rt.retV ok_M_readProof rfl rfl
    · rw [if_neg h22] at hf
      refine Rt.path ok_M_readProof 3 [1] rfl ⟨⟨h21, h22⟩, trivial⟩ ?_
      cases hf
      exact Rt.retV ok_M_readProof rfl rfl
def b_M_readLabelled_50_0 (L : Nat → Int64 → Int → Int → G2 → Option (G2)) (l1 : Int64) (i3 : Int) (i4 : Int) (g : G2) : Option (G2) :=
  (f_M_fail_50 (-7) (rI g 49 5) g).bind fun g19 =>
  some g19
def b_M_readLabelled_50_1 (L : Nat → Int64 → Int → Int → G2 → Option (G2)) (l1 : Int64) (i3 : Int) (i4 : Int) (g : G2) : Option (G2) :=
  if ir i3 then
  if i3 = 7 then
    bd (f_M_readExpression_50 8 g) fun r22 g22 =>
    if ir r22 then
    if r22 = 0 then
      some g22
    else
      if i3 = 5 then
        L 2 l1 i3 (rI g22 49 27) g22
      else
        (f_M_findNeeds_50 g22).bind fun g26 =>
        (f_M_begin_50 (rI g22 49 27) g26).bind fun g27 =>
        if i3 = 7 then
          (f_M_readProof_50 (rI g22 49 27) g27).bind fun g29 =>
          L 2 l1 i3 (rI g22 49 27) g29
        else
          L 2 l1 i3 (rI g22 49 27) g27
    else none
  else
    bd (f_M_readExpression_50 9 g) fun r30 g30 =>
    if ir r30 then
    if r30 = 0 then
      some g30
    else
      if i3 = 5 then
        L 2 l1 i3 (rI g30 49 27) g30
      else
        (f_M_findNeeds_50 g30).bind fun g34 =>
        (f_M_begin_50 (rI g30 49 27) g34).bind fun g35 =>
        if i3 = 7 then
          (f_M_readProof_50 (rI g30 49 27) g35).bind fun g37 =>
          L 2 l1 i3 (rI g30 49 27) g37
        else
          L 2 l1 i3 (rI g30 49 27) g35
    else none
  else none
def b_M_readLabelled_50_2 (L : Nat → Int64 → Int → Int → G2 → Option (G2)) (l1 : Int64) (i3 : Int) (i4 : Int) (g : G2) : Option (G2) :=
  if ir (rI g 49 6) then
  if (rI g 49 6) = 0 then
    bd (f_M_declare_50 i3 l1 g) fun r40 g40 =>
    if ir i3 then
    if i3 = 5 then
      L 3 0 0 0 g40
    else
      if 0 ≤ r40 ∧ r40 < 40 then
      if 0 ≤ i4 ∧ i4 < 41 then
      (f_M_settle_50 i4 (gA (gA g40 64 r40 i4) 68 i4 r40)).bind fun g45 =>
      L 3 0 0 0 (gI g45 49 27 ((rI g45 49 27) + 1))
      else none
      else none
    else none
  else
    L 3 0 0 0 g
  else none
def b_M_readLabelled_50_3 (L : Nat → Int64 → Int → Int → G2 → Option (G2)) (l1 : Int64) (i3 : Int) (i4 : Int) (g : G2) : Option (G2) :=
  L 4 0 0 0 g
def b_M_readLabelled_50_4 (L : Nat → Int64 → Int → Int → G2 → Option (G2)) (l1 : Int64) (i3 : Int) (i4 : Int) (g : G2) : Option (G2) :=
  some g
def l_M_readLabelled_50 : Nat → Nat → Int64 → Int → Int → G2 → Option (G2)
  | 0 => fun _ _ _ _ _ => none
  | n + 1 => fun t l1 i3 i4 g => match t with
    | 0 => b_M_readLabelled_50_0 (l_M_readLabelled_50 n) l1 i3 i4 g
    | 1 => b_M_readLabelled_50_1 (l_M_readLabelled_50 n) l1 i3 i4 g
    | 2 => b_M_readLabelled_50_2 (l_M_readLabelled_50 n) l1 i3 i4 g
    | 3 => b_M_readLabelled_50_3 (l_M_readLabelled_50 n) l1 i3 i4 g
    | _ => b_M_readLabelled_50_4 (l_M_readLabelled_50 n) l1 i3 i4 g
set_option maxHeartbeats 4000000 in
set_option maxRecDepth 100000 in
theorem rl_M_readLabelled_50 (d : Nat) : ∀ (n : Nat) (l1 : Int64) (i3 : Int) (i4 : Int) (g : G2) (g' : G2), (l_M_readLabelled_50 n 0 l1 i3 i4 g = some g' → Rt (d + 8) m_M_readLabelled 46 [some (vR 50), none, none, none, none, none] [] g none g') ∧ (l_M_readLabelled_50 n 1 l1 i3 i4 g = some g' → Rt (d + 8) m_M_readLabelled 107 [some (vR 50), some (vL l1), none, some (vI i3), none, none] [] g none g') ∧ (l_M_readLabelled_50 n 2 l1 i3 i4 g = some g' → Rt (d + 8) m_M_readLabelled 161 [some (vR 50), some (vL l1), none, some (vI i3), some (vI i4), none] [] g none g') ∧ (l_M_readLabelled_50 n 3 l1 i3 i4 g = some g' → Rt (d + 8) m_M_readLabelled 215 [none, none, none, none, none, none] [] g none g') ∧ (l_M_readLabelled_50 n 4 l1 i3 i4 g = some g' → Rt (d + 8) m_M_readLabelled 228 [none, none, none, none, none, none] [] g none g') := by
  intro n
  induction n with
  | zero => intro l1 i3 i4 g g'; exact ⟨fun hf => (by cases hf), fun hf => (by cases hf), fun hf => (by cases hf), fun hf => (by cases hf), fun hf => (by cases hf)⟩
  | succ n ih =>
    intro l1 i3 i4 g g'
    refine ⟨?_, ?_, ?_, ?_, ?_⟩
    · intro hf
      replace hf : b_M_readLabelled_50_0 (l_M_readLabelled_50 n) l1 i3 i4 g = some g' := hf
      unfold b_M_readLabelled_50_0 at hf
      obtain ⟨g19, e19, hf⟩ := Option.bind_eq_some_iff.mp hf
      refine Rt.path ok_M_readLabelled 4 [] rfl trivial ?_
      refine Rt.callV ok_M_readLabelled rfl ml_M_157 [vI _, vI _] cf_M_fail rfl rfl (c_M_fail_50 (d + 7) _ _ _ _ e19) (Nat.le_of_ble_eq_true rfl) ?_
      cases hf
      exact Rt.retV ok_M_readLabelled rfl rfl
    · intro hf
      replace hf : b_M_readLabelled_50_1 (l_M_readLabelled_50 n) l1 i3 i4 g = some g' := hf
      unfold b_M_readLabelled_50_1 at hf
      have h20 : ir i3 := by
        by_cases q : ir i3
        · exact q
        · rw [if_neg q] at hf; cases hf
      rw [if_pos h20] at hf
      by_cases h21 : i3 = 7
      · rw [if_pos h21] at hf
        refine Rt.path ok_M_readLabelled 4 [0] rfl ⟨⟨⟨h20, (show ir 7 by decide)⟩, h21⟩, trivial⟩ ?_
        obtain ⟨r22, g22, e22, hf⟩ := bd_inv hf
        refine Rt.path ok_M_readLabelled 2 [] rfl trivial ?_
        refine Rt.callV ok_M_readLabelled rfl ml_M_240 [vI _] cf_M_readExpression rfl rfl (c_M_readExpression_50 (d + 1) _ _ _ _ e22) (Nat.le_of_ble_eq_true rfl) ?_
        have h23 : ir r22 := by
          by_cases q : ir r22
          · exact q
          · rw [if_neg q] at hf; cases hf
        rw [if_pos h23] at hf
        by_cases h24 : r22 = 0
        · rw [if_pos h24] at hf
          refine Rt.path ok_M_readLabelled 1 [0] rfl ⟨⟨h23, h24⟩, trivial⟩ ?_
          cases hf
          exact Rt.retV ok_M_readLabelled rfl rfl
        · rw [if_neg h24] at hf
          refine Rt.path ok_M_readLabelled 1 [1] rfl ⟨⟨h23, h24⟩, trivial⟩ ?_
          by_cases h25 : i3 = 5
          · rw [if_pos h25] at hf
            refine Rt.path ok_M_readLabelled 6 [1] rfl ⟨⟨⟨h20, (show ir 5 by decide)⟩, h25⟩, trivial⟩ ?_
            exact Rt.weak ((ih _ _ _ _ _).2.2.1 hf) ⟨rfl, rfl, rfl, rfl, trivial⟩
          · rw [if_neg h25] at hf
            refine Rt.path ok_M_readLabelled 6 [0] rfl ⟨⟨⟨h20, (show ir 5 by decide)⟩, h25⟩, trivial⟩ ?_
            obtain ⟨g26, e26, hf⟩ := Option.bind_eq_some_iff.mp hf
            refine Rt.path ok_M_readLabelled 1 [] rfl trivial ?_
            refine Rt.callV ok_M_readLabelled rfl ml_M_243 [] cf_M_findNeeds rfl rfl (c_M_findNeeds_50 (d + 6) _ _ e26) (Nat.le_of_ble_eq_true rfl) ?_
            obtain ⟨g27, e27, hf⟩ := Option.bind_eq_some_iff.mp hf
            refine Rt.path ok_M_readLabelled 2 [] rfl trivial ?_
            refine Rt.callV ok_M_readLabelled rfl ml_M_246 [vI _] cf_M_begin rfl rfl (c_M_begin_50 (d + 7) _ _ _ e27) (Nat.le_of_ble_eq_true rfl) ?_
            by_cases h28 : i3 = 7
            · rw [if_pos h28] at hf
              refine Rt.path ok_M_readLabelled 3 [0] rfl ⟨⟨⟨h20, (show ir 7 by decide)⟩, h28⟩, trivial⟩ ?_
              obtain ⟨g29, e29, hf⟩ := Option.bind_eq_some_iff.mp hf
              refine Rt.path ok_M_readLabelled 2 [] rfl trivial ?_
              refine Rt.callV ok_M_readLabelled rfl ml_M_250 [vI _] cf_M_readProof rfl rfl (c_M_readProof_50 d _ _ _ e29) (Nat.le_of_ble_eq_true rfl) ?_
              exact Rt.weak ((ih _ _ _ _ _).2.2.1 hf) ⟨rfl, rfl, rfl, rfl, trivial⟩
            · rw [if_neg h28] at hf
              refine Rt.path ok_M_readLabelled 3 [1] rfl ⟨⟨⟨h20, (show ir 7 by decide)⟩, h28⟩, trivial⟩ ?_
              exact Rt.weak ((ih _ _ _ _ _).2.2.1 hf) ⟨rfl, rfl, rfl, rfl, trivial⟩
      · rw [if_neg h21] at hf
        refine Rt.path ok_M_readLabelled 4 [1] rfl ⟨⟨⟨h20, (show ir 7 by decide)⟩, h21⟩, trivial⟩ ?_
        obtain ⟨r30, g30, e30, hf⟩ := bd_inv hf
        refine Rt.path ok_M_readLabelled 1 [] rfl trivial ?_
        refine Rt.callV ok_M_readLabelled rfl ml_M_240 [vI _] cf_M_readExpression rfl rfl (c_M_readExpression_50 (d + 1) _ _ _ _ e30) (Nat.le_of_ble_eq_true rfl) ?_
        have h31 : ir r30 := by
          by_cases q : ir r30
          · exact q
          · rw [if_neg q] at hf; cases hf
        rw [if_pos h31] at hf
        by_cases h32 : r30 = 0
        · rw [if_pos h32] at hf
          refine Rt.path ok_M_readLabelled 1 [0] rfl ⟨⟨h31, h32⟩, trivial⟩ ?_
          cases hf
          exact Rt.retV ok_M_readLabelled rfl rfl
        · rw [if_neg h32] at hf
          refine Rt.path ok_M_readLabelled 1 [1] rfl ⟨⟨h31, h32⟩, trivial⟩ ?_
          by_cases h33 : i3 = 5
          · rw [if_pos h33] at hf
            refine Rt.path ok_M_readLabelled 6 [1] rfl ⟨⟨⟨h20, (show ir 5 by decide)⟩, h33⟩, trivial⟩ ?_
            exact Rt.weak ((ih _ _ _ _ _).2.2.1 hf) ⟨rfl, rfl, rfl, rfl, trivial⟩
          · rw [if_neg h33] at hf
            refine Rt.path ok_M_readLabelled 6 [0] rfl ⟨⟨⟨h20, (show ir 5 by decide)⟩, h33⟩, trivial⟩ ?_
            obtain ⟨g34, e34, hf⟩ := Option.bind_eq_some_iff.mp hf
            refine Rt.path ok_M_readLabelled 1 [] rfl trivial ?_
            refine Rt.callV ok_M_readLabelled rfl ml_M_243 [] cf_M_findNeeds rfl rfl (c_M_findNeeds_50 (d + 6) _ _ e34) (Nat.le_of_ble_eq_true rfl) ?_
            obtain ⟨g35, e35, hf⟩ := Option.bind_eq_some_iff.mp hf
            refine Rt.path ok_M_readLabelled 2 [] rfl trivial ?_
            refine Rt.callV ok_M_readLabelled rfl ml_M_246 [vI _] cf_M_begin rfl rfl (c_M_begin_50 (d + 7) _ _ _ e35) (Nat.le_of_ble_eq_true rfl) ?_
            by_cases h36 : i3 = 7
            · rw [if_pos h36] at hf
              refine Rt.path ok_M_readLabelled 3 [0] rfl ⟨⟨⟨h20, (show ir 7 by decide)⟩, h36⟩, trivial⟩ ?_
              obtain ⟨g37, e37, hf⟩ := Option.bind_eq_some_iff.mp hf
              refine Rt.path ok_M_readLabelled 2 [] rfl trivial ?_
              refine Rt.callV ok_M_readLabelled rfl ml_M_250 [vI _] cf_M_readProof rfl rfl (c_M_readProof_50 d _ _ _ e37) (Nat.le_of_ble_eq_true rfl) ?_
              exact Rt.weak ((ih _ _ _ _ _).2.2.1 hf) ⟨rfl, rfl, rfl, rfl, trivial⟩
            · rw [if_neg h36] at hf
              refine Rt.path ok_M_readLabelled 3 [1] rfl ⟨⟨⟨h20, (show ir 7 by decide)⟩, h36⟩, trivial⟩ ?_
              exact Rt.weak ((ih _ _ _ _ _).2.2.1 hf) ⟨rfl, rfl, rfl, rfl, trivial⟩
    · intro hf
      replace hf : b_M_readLabelled_50_2 (l_M_readLabelled_50 n) l1 i3 i4 g = some g' := hf
      unfold b_M_readLabelled_50_2 at hf
      have h38 : ir (rI g 49 6) := by
        by_cases q : ir (rI g 49 6)
        · exact q
        · rw [if_neg q] at hf; cases hf
      rw [if_pos h38] at hf
      by_cases h39 : (rI g 49 6) = 0
      · rw [if_pos h39] at hf
        refine Rt.path ok_M_readLabelled 3 [0] rfl ⟨⟨h38, h39⟩, trivial⟩ ?_
        obtain ⟨r40, g40, e40, hf⟩ := bd_inv hf
        refine Rt.path ok_M_readLabelled 3 [] rfl trivial ?_
        refine Rt.callV ok_M_readLabelled rfl ml_M_222 [vI _, vL _] cf_M_declare rfl rfl (c_M_declare_50 (d + 6) _ _ _ _ _ e40) (Nat.le_of_ble_eq_true rfl) ?_
        have h41 : ir i3 := by
          by_cases q : ir i3
          · exact q
          · rw [if_neg q] at hf; cases hf
        rw [if_pos h41] at hf
        by_cases h42 : i3 = 5
        · rw [if_pos h42] at hf
          refine Rt.path ok_M_readLabelled 4 [1] rfl ⟨⟨⟨h41, (show ir 5 by decide)⟩, h42⟩, trivial⟩ ?_
          exact Rt.weak ((ih _ _ _ _ _).2.2.2.1 hf) trivial
        · rw [if_neg h42] at hf
          refine Rt.path ok_M_readLabelled 4 [0] rfl ⟨⟨⟨h41, (show ir 5 by decide)⟩, h42⟩, trivial⟩ ?_
          have h43 : 0 ≤ r40 ∧ r40 < 40 := by
            by_cases q : 0 ≤ r40 ∧ r40 < 40
            · exact q
            · rw [if_neg q] at hf; cases hf
          rw [if_pos h43] at hf
          have h44 : 0 ≤ i4 ∧ i4 < 41 := by
            by_cases q : 0 ≤ i4 ∧ i4 < 41
            · exact q
            · rw [if_neg q] at hf; cases hf
          rw [if_pos h44] at hf
          obtain ⟨g45, e45, hf⟩ := Option.bind_eq_some_iff.mp hf
          refine Rt.path ok_M_readLabelled 12 [] rfl ⟨(ix_40 h43), (ix_41 h44), trivial⟩ ?_
          refine Rt.callV ok_M_readLabelled rfl ml_M_253 [vI _] cf_M_settle rfl rfl (c_M_settle_50 (d + 7) _ _ _ e45) (Nat.le_of_ble_eq_true rfl) ?_
          refine Rt.path ok_M_readLabelled 6 [] rfl trivial ?_
          exact Rt.weak ((ih _ _ _ _ _).2.2.2.1 hf) trivial
      · rw [if_neg h39] at hf
        refine Rt.path ok_M_readLabelled 3 [1] rfl ⟨⟨h38, h39⟩, trivial⟩ ?_
        exact Rt.weak ((ih _ _ _ _ _).2.2.2.1 hf) trivial
    · intro hf
      replace hf : b_M_readLabelled_50_3 (l_M_readLabelled_50 n) l1 i3 i4 g = some g' := hf
      unfold b_M_readLabelled_50_3 at hf
      refine Rt.path ok_M_readLabelled 1 [] rfl trivial ?_
      exact Rt.weak ((ih _ _ _ _ _).2.2.2.2 hf) trivial
    · intro hf
      replace hf : b_M_readLabelled_50_4 (l_M_readLabelled_50 n) l1 i3 i4 g = some g' := hf
      unfold b_M_readLabelled_50_4 at hf
      cases hf
      exact Rt.retV ok_M_readLabelled rfl rfl
def f_M_readLabelled_50  (g : G2) : Option (G2) :=
  bd (f_M_codeOf_50 (rI g 49 5) g) fun r1 g1 =>
  bd (f_M_find_50 r1 g1) fun r2 g2 =>
  if ir r2 then
  if r2 < 0 then
    if ir (rI g2 49 8) then
    if (rI g2 49 8) = 60 then
      l_M_readLabelled_50 20000 0 0 0 0 g2
    else
      if ir (rI g2 49 15) then
      if (rI g2 49 15) = 40 then
        l_M_readLabelled_50 20000 0 0 0 0 g2
      else
        bd (f_M_need_50 (gI g2 49 5 ((rI g2 49 5) + 1))) fun r9 g9 =>
        if ir r9 then
        if r9 < 0 then
          some g9
        else
          if r9 = 4 then
            (f_M_readFloating_50 r1 g9).bind fun g13 =>
            l_M_readLabelled_50 20000 4 0 0 0 g13
          else
            if r9 = 5 then
              l_M_readLabelled_50 20000 1 r1 r9 0 g9
            else
              if r9 = 6 then
                l_M_readLabelled_50 20000 1 r1 r9 0 g9
              else
                if r9 = 7 then
                  l_M_readLabelled_50 20000 1 r1 r9 0 g9
                else
                  (f_M_fail_50 (-3) (rI g9 49 5) g9).bind fun g17 =>
                  l_M_readLabelled_50 20000 4 0 0 0 g17
        else none
      else none
    else none
  else
    (f_M_fail_50 (-4) (rI g2 49 5) g2).bind fun g18 =>
    some g18
  else none
set_option maxHeartbeats 4000000 in
set_option maxRecDepth 100000 in
theorem c_M_readLabelled_50 (d : Nat)  (g : G2) (g' : G2) (hf : f_M_readLabelled_50 g = some g') : C2 (d + 8) m_M_readLabelled [vR 50] g none g' := by
  unfold f_M_readLabelled_50 at hf
  refine C2.of rfl rfl rfl (Nat.le_of_ble_eq_true rfl) ?_
  obtain ⟨r1, g1, e1, hf⟩ := bd_inv hf
  refine Rt.path ok_M_readLabelled 3 [] rfl trivial ?_
  refine Rt.callV ok_M_readLabelled rfl ml_M_176 [vI _] cf_M_codeOf rfl rfl (c_M_codeOf_50 (d + 6) _ _ _ _ e1) (Nat.le_of_ble_eq_true rfl) ?_
  obtain ⟨r2, g2, e2, hf⟩ := bd_inv hf
  refine Rt.path ok_M_readLabelled 3 [] rfl trivial ?_
  refine Rt.callV ok_M_readLabelled rfl ml_M_180 [vL _] cf_M_find rfl rfl (c_M_find_50 (d + 7) _ _ _ _ e2) (Nat.le_of_ble_eq_true rfl) ?_
  have h3 : ir r2 := by
    by_cases q : ir r2
    · exact q
    · rw [if_neg q] at hf; cases hf
  rw [if_pos h3] at hf
  by_cases h4 : r2 < 0
  · rw [if_pos h4] at hf
    refine Rt.path ok_M_readLabelled 1 [1] rfl ⟨⟨h3, h4⟩, trivial⟩ ?_
    have h5 : ir (rI g2 49 8) := by
      by_cases q : ir (rI g2 49 8)
      · exact q
      · rw [if_neg q] at hf; cases hf
    rw [if_pos h5] at hf
    by_cases h6 : (rI g2 49 8) = 60
    · rw [if_pos h6] at hf
      refine Rt.path ok_M_readLabelled 4 [1] rfl ⟨⟨⟨h5, (show ir 60 by decide)⟩, h6⟩, trivial⟩ ?_
      exact Rt.weak ((rl_M_readLabelled_50 d _ _ _ _ _ _).1 hf) ⟨rfl, trivial⟩
    · rw [if_neg h6] at hf
      refine Rt.path ok_M_readLabelled 4 [0] rfl ⟨⟨⟨h5, (show ir 60 by decide)⟩, h6⟩, trivial⟩ ?_
      have h7 : ir (rI g2 49 15) := by
        by_cases q : ir (rI g2 49 15)
        · exact q
        · rw [if_neg q] at hf; cases hf
      rw [if_pos h7] at hf
      by_cases h8 : (rI g2 49 15) = 40
      · rw [if_pos h8] at hf
        refine Rt.path ok_M_readLabelled 4 [0] rfl ⟨⟨⟨h7, (show ir 40 by decide)⟩, h8⟩, trivial⟩ ?_
        exact Rt.weak ((rl_M_readLabelled_50 d _ _ _ _ _ _).1 hf) ⟨rfl, trivial⟩
      · rw [if_neg h8] at hf
        refine Rt.path ok_M_readLabelled 4 [1] rfl ⟨⟨⟨h7, (show ir 40 by decide)⟩, h8⟩, trivial⟩ ?_
        obtain ⟨r9, g9, e9, hf⟩ := bd_inv hf
        refine Rt.path ok_M_readLabelled 7 [] rfl trivial ?_
        refine Rt.callV ok_M_readLabelled rfl ml_M_169 [] cf_M_need rfl rfl (c_M_need_50 (d + 4) _ _ _ e9) (Nat.le_of_ble_eq_true rfl) ?_
        have h10 : ir r9 := by
          by_cases q : ir r9
          · exact q
          · rw [if_neg q] at hf; cases hf
        rw [if_pos h10] at hf
        by_cases h11 : r9 < 0
        · rw [if_pos h11] at hf
          refine Rt.path ok_M_readLabelled 3 [0] rfl ⟨⟨h10, h11⟩, trivial⟩ ?_
          cases hf
          exact Rt.retV ok_M_readLabelled rfl rfl
        · rw [if_neg h11] at hf
          refine Rt.path ok_M_readLabelled 3 [1] rfl ⟨⟨h10, (Int.not_lt.mp h11)⟩, trivial⟩ ?_
          by_cases h12 : r9 = 4
          · rw [if_pos h12] at hf
            refine Rt.path ok_M_readLabelled 3 [0] rfl ⟨⟨⟨h10, (show ir 4 by decide)⟩, h12⟩, trivial⟩ ?_
            obtain ⟨g13, e13, hf⟩ := Option.bind_eq_some_iff.mp hf
            refine Rt.path ok_M_readLabelled 2 [] rfl trivial ?_
            refine Rt.callV ok_M_readLabelled rfl ml_M_236 [vL _] cf_M_readFloating rfl rfl (c_M_readFloating_50 (d + 1) _ _ _ e13) (Nat.le_of_ble_eq_true rfl) ?_
            refine Rt.path ok_M_readLabelled 1 [] rfl trivial ?_
            exact Rt.weak ((rl_M_readLabelled_50 d _ _ _ _ _ _).2.2.2.2 hf) trivial
          · rw [if_neg h12] at hf
            refine Rt.path ok_M_readLabelled 3 [1] rfl ⟨⟨⟨h10, (show ir 4 by decide)⟩, h12⟩, trivial⟩ ?_
            by_cases h14 : r9 = 5
            · rw [if_pos h14] at hf
              refine Rt.path ok_M_readLabelled 3 [1] rfl ⟨⟨⟨h10, (show ir 5 by decide)⟩, h14⟩, trivial⟩ ?_
              exact Rt.weak ((rl_M_readLabelled_50 d _ _ _ _ _ _).2.1 hf) ⟨rfl, rfl, rfl, trivial⟩
            · rw [if_neg h14] at hf
              refine Rt.path ok_M_readLabelled 3 [0] rfl ⟨⟨⟨h10, (show ir 5 by decide)⟩, h14⟩, trivial⟩ ?_
              by_cases h15 : r9 = 6
              · rw [if_pos h15] at hf
                refine Rt.path ok_M_readLabelled 3 [1] rfl ⟨⟨⟨h10, (show ir 6 by decide)⟩, h15⟩, trivial⟩ ?_
                exact Rt.weak ((rl_M_readLabelled_50 d _ _ _ _ _ _).2.1 hf) ⟨rfl, rfl, rfl, trivial⟩
              · rw [if_neg h15] at hf
                refine Rt.path ok_M_readLabelled 3 [0] rfl ⟨⟨⟨h10, (show ir 6 by decide)⟩, h15⟩, trivial⟩ ?_
                by_cases h16 : r9 = 7
                · rw [if_pos h16] at hf
                  refine Rt.path ok_M_readLabelled 3 [0] rfl ⟨⟨⟨h10, (show ir 7 by decide)⟩, h16⟩, trivial⟩ ?_
                  exact Rt.weak ((rl_M_readLabelled_50 d _ _ _ _ _ _).2.1 hf) ⟨rfl, rfl, rfl, trivial⟩
                · rw [if_neg h16] at hf
                  refine Rt.path ok_M_readLabelled 3 [1] rfl ⟨⟨⟨h10, (show ir 7 by decide)⟩, h16⟩, trivial⟩ ?_
                  obtain ⟨g17, e17, hf⟩ := Option.bind_eq_some_iff.mp hf
                  refine Rt.path ok_M_readLabelled 4 [] rfl trivial ?_
                  refine Rt.callV ok_M_readLabelled rfl ml_M_157 [vI _, vI _] cf_M_fail rfl rfl (c_M_fail_50 (d + 7) _ _ _ _ e17) (Nat.le_of_ble_eq_true rfl) ?_
                  exact Rt.weak ((rl_M_readLabelled_50 d _ _ _ _ _ _).2.2.2.2 hf) trivial
  · rw [if_neg h4] at hf
    refine Rt.path ok_M_readLabelled 1 [0] rfl ⟨⟨h3, (Int.not_lt.mp h4)⟩, trivial⟩ ?_
    obtain ⟨g18, e18, hf⟩ := Option.bind_eq_some_iff.mp hf
    refine Rt.path ok_M_readLabelled 4 [] rfl trivial ?_
    refine Rt.callV ok_M_readLabelled rfl ml_M_157 [vI _, vI _] cf_M_fail rfl rfl (c_M_fail_50 (d + 7) _ _ _ _ e18) (Nat.le_of_ble_eq_true rfl) ?_
    cases hf
    exact Rt.retV ok_M_readLabelled rfl rfl
def b_M_readConstants_50_0 (L : Nat → Int → Int → G2 → Option (G2)) (i1 : Int) (i2 : Int) (g : G2) : Option (G2) :=
  if ir (rI g 49 6) then
  if (rI g 49 6) = 0 then
    bd (f_M_need_50 g) fun r6 g6 =>
    if ir r6 then
    if r6 = 9 then
      if ir i1 then
      if 0 < i1 then
        some (gI g6 49 5 ((rI g6 49 5) + 1))
      else
        L 1 i1 r6 g6
      else none
    else
      L 1 i1 r6 g6
    else none
  else
    some g
  else none
def b_M_readConstants_50_1 (L : Nat → Int → Int → G2 → Option (G2)) (i1 : Int) (i2 : Int) (g : G2) : Option (G2) :=
  if ir i2 then
  if i2 = 0 then
    bd (f_M_findWord_50 g) fun r13 g13 =>
    if ir r13 then
    if r13 < 0 then
      if ir (rI g13 49 8) then
      if (rI g13 49 8) = 60 then
        (f_M_fail_50 (-7) (rI g13 49 5) g13).bind fun g18 =>
        L 2 i1 0 g18
      else
        bd (f_M_codeOf_50 (rI g13 49 5) g13) fun r19 g19 =>
        bd (f_M_addName_50 r19 g19) fun r20 g20 =>
        if 0 ≤ r20 ∧ r20 < 60 then
        L 2 i1 0 (gA g20 54 r20 1)
        else none
      else none
    else
      (f_M_fail_50 (-4) (rI g13 49 5) g13).bind fun g22 =>
      L 2 i1 0 g22
    else none
  else
    (f_M_fail_50 (-3) (rI g 49 5) g).bind fun g23 =>
    some g23
  else none
def b_M_readConstants_50_2 (L : Nat → Int → Int → G2 → Option (G2)) (i1 : Int) (i2 : Int) (g : G2) : Option (G2) :=
  L 0 (i1 + 1) 0 (gI g 49 5 ((rI g 49 5) + 1))
def l_M_readConstants_50 : Nat → Nat → Int → Int → G2 → Option (G2)
  | 0 => fun _ _ _ _ => none
  | n + 1 => fun t i1 i2 g => match t with
    | 0 => b_M_readConstants_50_0 (l_M_readConstants_50 n) i1 i2 g
    | 1 => b_M_readConstants_50_1 (l_M_readConstants_50 n) i1 i2 g
    | _ => b_M_readConstants_50_2 (l_M_readConstants_50 n) i1 i2 g
set_option maxHeartbeats 4000000 in
set_option maxRecDepth 100000 in
theorem rl_M_readConstants_50 (d : Nat) : ∀ (n : Nat) (i1 : Int) (i2 : Int) (g : G2) (g' : G2), (l_M_readConstants_50 n 0 i1 i2 g = some g' → Rt (d + 4) m_M_readConstants 30 [some (vR 50), some (vI i1), none] [] g none g') ∧ (l_M_readConstants_50 n 1 i1 i2 g = some g' → Rt (d + 4) m_M_readConstants 63 [some (vR 50), some (vI i1), some (vI i2)] [] g none g') ∧ (l_M_readConstants_50 n 2 i1 i2 g = some g' → Rt (d + 4) m_M_readConstants 138 [some (vR 50), some (vI i1), none] [] g none g') := by
  intro n
  induction n with
  | zero => intro i1 i2 g g'; exact ⟨fun hf => (by cases hf), fun hf => (by cases hf), fun hf => (by cases hf)⟩
  | succ n ih =>
    intro i1 i2 g g'
    refine ⟨?_, ?_, ?_⟩
    · intro hf
      replace hf : b_M_readConstants_50_0 (l_M_readConstants_50 n) i1 i2 g = some g' := hf
      unfold b_M_readConstants_50_0 at hf
      have h4 : ir (rI g 49 6) := by
        by_cases q : ir (rI g 49 6)
        · exact q
        · rw [if_neg q] at hf; cases hf
      rw [if_pos h4] at hf
      by_cases h5 : (rI g 49 6) = 0
      · rw [if_pos h5] at hf
        refine Rt.path ok_M_readConstants 3 [0] rfl ⟨⟨h4, h5⟩, trivial⟩ ?_
        obtain ⟨r6, g6, e6, hf⟩ := bd_inv hf
        refine Rt.path ok_M_readConstants 1 [] rfl trivial ?_
        refine Rt.callV ok_M_readConstants rfl ml_M_169 [] cf_M_need rfl rfl (c_M_need_50 d _ _ _ e6) (Nat.le_of_ble_eq_true rfl) ?_
        have h7 : ir r6 := by
          by_cases q : ir r6
          · exact q
          · rw [if_neg q] at hf; cases hf
        rw [if_pos h7] at hf
        by_cases h8 : r6 = 9
        · rw [if_pos h8] at hf
          refine Rt.path ok_M_readConstants 4 [0] rfl ⟨⟨⟨h7, (show ir 9 by decide)⟩, h8⟩, trivial⟩ ?_
          have h9 : ir i1 := by
            by_cases q : ir i1
            · exact q
            · rw [if_neg q] at hf; cases hf
          rw [if_pos h9] at hf
          by_cases h10 : 0 < i1
          · rw [if_pos h10] at hf
            refine Rt.path ok_M_readConstants 2 [0] rfl ⟨⟨h9, h10⟩, trivial⟩ ?_
            cases hf
            refine Rt.path ok_M_readConstants 6 [] rfl trivial ?_
            exact Rt.retV ok_M_readConstants rfl rfl
          · rw [if_neg h10] at hf
            refine Rt.path ok_M_readConstants 2 [1] rfl ⟨⟨h9, (Int.not_lt.mp h10)⟩, trivial⟩ ?_
            exact Rt.weak ((ih _ _ _ _).2.1 hf) ⟨rfl, rfl, rfl, trivial⟩
        · rw [if_neg h8] at hf
          refine Rt.path ok_M_readConstants 4 [1] rfl ⟨⟨⟨h7, (show ir 9 by decide)⟩, h8⟩, trivial⟩ ?_
          exact Rt.weak ((ih _ _ _ _).2.1 hf) ⟨rfl, rfl, rfl, trivial⟩
      · rw [if_neg h5] at hf
        refine Rt.path ok_M_readConstants 3 [1] rfl ⟨⟨h4, h5⟩, trivial⟩ ?_
        cases hf
        exact Rt.retV ok_M_readConstants rfl rfl
    · intro hf
      replace hf : b_M_readConstants_50_1 (l_M_readConstants_50 n) i1 i2 g = some g' := hf
      unfold b_M_readConstants_50_1 at hf
      have h11 : ir i2 := by
        by_cases q : ir i2
        · exact q
        · rw [if_neg q] at hf; cases hf
      rw [if_pos h11] at hf
      by_cases h12 : i2 = 0
      · rw [if_pos h12] at hf
        refine Rt.path ok_M_readConstants 2 [1] rfl ⟨⟨h11, h12⟩, trivial⟩ ?_
        obtain ⟨r13, g13, e13, hf⟩ := bd_inv hf
        refine Rt.path ok_M_readConstants 1 [] rfl trivial ?_
        refine Rt.callV ok_M_readConstants rfl ml_M_190 [] cf_M_findWord rfl rfl (c_M_findWord_50 (d + 1) _ _ _ e13) (Nat.le_of_ble_eq_true rfl) ?_
        have h14 : ir r13 := by
          by_cases q : ir r13
          · exact q
          · rw [if_neg q] at hf; cases hf
        rw [if_pos h14] at hf
        by_cases h15 : r13 < 0
        · rw [if_pos h15] at hf
          refine Rt.path ok_M_readConstants 1 [1] rfl ⟨⟨h14, h15⟩, trivial⟩ ?_
          have h16 : ir (rI g13 49 8) := by
            by_cases q : ir (rI g13 49 8)
            · exact q
            · rw [if_neg q] at hf; cases hf
          rw [if_pos h16] at hf
          by_cases h17 : (rI g13 49 8) = 60
          · rw [if_pos h17] at hf
            refine Rt.path ok_M_readConstants 4 [0] rfl ⟨⟨⟨h16, (show ir 60 by decide)⟩, h17⟩, trivial⟩ ?_
            obtain ⟨g18, e18, hf⟩ := Option.bind_eq_some_iff.mp hf
            refine Rt.path ok_M_readConstants 4 [] rfl trivial ?_
            refine Rt.callV ok_M_readConstants rfl ml_M_157 [vI _, vI _] cf_M_fail rfl rfl (c_M_fail_50 (d + 3) _ _ _ _ e18) (Nat.le_of_ble_eq_true rfl) ?_
            refine Rt.path ok_M_readConstants 1 [] rfl trivial ?_
            exact Rt.weak ((ih _ _ _ _).2.2 hf) ⟨rfl, rfl, trivial⟩
          · rw [if_neg h17] at hf
            refine Rt.path ok_M_readConstants 4 [1] rfl ⟨⟨⟨h16, (show ir 60 by decide)⟩, h17⟩, trivial⟩ ?_
            obtain ⟨r19, g19, e19, hf⟩ := bd_inv hf
            refine Rt.path ok_M_readConstants 6 [] rfl trivial ?_
            refine Rt.callV ok_M_readConstants rfl ml_M_176 [vI _] cf_M_codeOf rfl rfl (c_M_codeOf_50 (d + 2) _ _ _ _ e19) (Nat.le_of_ble_eq_true rfl) ?_
            obtain ⟨r20, g20, e20, hf⟩ := bd_inv hf
            refine Rt.callV ok_M_readConstants rfl ml_M_193 [vL _] cf_M_addName rfl rfl (c_M_addName_50 (d + 3) _ _ _ _ e20) (Nat.le_of_ble_eq_true rfl) ?_
            have h21 : 0 ≤ r20 ∧ r20 < 60 := by
              by_cases q : 0 ≤ r20 ∧ r20 < 60
              · exact q
              · rw [if_neg q] at hf; cases hf
            rw [if_pos h21] at hf
            refine Rt.path ok_M_readConstants 2 [] rfl ⟨(ix_60 h21), trivial⟩ ?_
            exact Rt.weak ((ih _ _ _ _).2.2 hf) ⟨rfl, rfl, trivial⟩
        · rw [if_neg h15] at hf
          refine Rt.path ok_M_readConstants 1 [0] rfl ⟨⟨h14, (Int.not_lt.mp h15)⟩, trivial⟩ ?_
          obtain ⟨g22, e22, hf⟩ := Option.bind_eq_some_iff.mp hf
          refine Rt.path ok_M_readConstants 4 [] rfl trivial ?_
          refine Rt.callV ok_M_readConstants rfl ml_M_157 [vI _, vI _] cf_M_fail rfl rfl (c_M_fail_50 (d + 3) _ _ _ _ e22) (Nat.le_of_ble_eq_true rfl) ?_
          refine Rt.path ok_M_readConstants 1 [] rfl trivial ?_
          exact Rt.weak ((ih _ _ _ _).2.2 hf) ⟨rfl, rfl, trivial⟩
      · rw [if_neg h12] at hf
        refine Rt.path ok_M_readConstants 2 [0] rfl ⟨⟨h11, h12⟩, trivial⟩ ?_
        obtain ⟨g23, e23, hf⟩ := Option.bind_eq_some_iff.mp hf
        refine Rt.path ok_M_readConstants 4 [] rfl trivial ?_
        refine Rt.callV ok_M_readConstants rfl ml_M_157 [vI _, vI _] cf_M_fail rfl rfl (c_M_fail_50 (d + 3) _ _ _ _ e23) (Nat.le_of_ble_eq_true rfl) ?_
        cases hf
        exact Rt.retV ok_M_readConstants rfl rfl
    · intro hf
      replace hf : b_M_readConstants_50_2 (l_M_readConstants_50 n) i1 i2 g = some g' := hf
      unfold b_M_readConstants_50_2 at hf
      refine Rt.path ok_M_readConstants 8 [] rfl trivial ?_
      exact Rt.weak ((ih _ _ _ _).1 hf) ⟨rfl, rfl, trivial⟩
def f_M_readConstants_50  (g : G2) : Option (G2) :=
  if ir (rI g 49 14) then
  if 0 < (rI g 49 14) then
    (f_M_fail_50 (-5) (rI g 49 5) g).bind fun g3 =>
    some g3
  else
    l_M_readConstants_50 20000 0 0 0 (gI g 49 5 ((rI g 49 5) + 1))
  else none
set_option maxHeartbeats 4000000 in
set_option maxRecDepth 100000 in
theorem c_M_readConstants_50 (d : Nat)  (g : G2) (g' : G2) (hf : f_M_readConstants_50 g = some g') : C2 (d + 4) m_M_readConstants [vR 50] g none g' := by
  unfold f_M_readConstants_50 at hf
  refine C2.of rfl rfl rfl (Nat.le_of_ble_eq_true rfl) ?_
  have h1 : ir (rI g 49 14) := by
    by_cases q : ir (rI g 49 14)
    · exact q
    · rw [if_neg q] at hf; cases hf
  rw [if_pos h1] at hf
  by_cases h2 : 0 < (rI g 49 14)
  · rw [if_pos h2] at hf
    refine Rt.path ok_M_readConstants 3 [0] rfl ⟨⟨h1, h2⟩, trivial⟩ ?_
    obtain ⟨g3, e3, hf⟩ := Option.bind_eq_some_iff.mp hf
    refine Rt.path ok_M_readConstants 4 [] rfl trivial ?_
    refine Rt.callV ok_M_readConstants rfl ml_M_157 [vI _, vI _] cf_M_fail rfl rfl (c_M_fail_50 (d + 3) _ _ _ _ e3) (Nat.le_of_ble_eq_true rfl) ?_
    cases hf
    exact Rt.retV ok_M_readConstants rfl rfl
  · rw [if_neg h2] at hf
    refine Rt.path ok_M_readConstants 3 [1] rfl ⟨⟨h1, (Int.not_lt.mp h2)⟩, trivial⟩ ?_
    refine Rt.path ok_M_readConstants 8 [] rfl trivial ?_
    exact Rt.weak ((rl_M_readConstants_50 d _ _ _ _ _).1 hf) ⟨rfl, rfl, trivial⟩
