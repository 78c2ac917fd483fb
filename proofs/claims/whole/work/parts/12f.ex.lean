def b_Reader_beginAssertion_26_0 (L : Nat → Int → Int64 → Int → G2 → Option (G2)) (i1 : Int) (l2 : Int64) (i4 : Int) (g : G2) : Option (G2) :=
  if ir i4 then
  if ir i1 then
  if i4 < i1 then
    if 0 ≤ i4 ∧ i4 < 40 then
    if ((rB g 13 i4) &&& l2) = (Int64.ofNat 0) then
      if ir (rA g 9 i4) then
      if (rA g 9 i4) = 1 then
        bd (f_Reader_isActiveHypothesis_26 i4 g) fun r11 g11 =>
        if ir r11 then
        if r11 = 0 then
          L 2 i1 l2 i4 g11
        else
          L 1 i1 l2 i4 g11
        else none
      else
        bd (f_Reader_isActiveHypothesis_26 i4 g) fun r14 g14 =>
        if ir r14 then
        if r14 = 0 then
          L 2 i1 l2 i4 g14
        else
          L 2 i1 l2 i4 g14
        else none
      else none
    else
      if ir (rA g 9 i4) then
      if (rA g 9 i4) = 1 then
        bd (f_Reader_isActiveHypothesis_26 i4 g) fun r19 g19 =>
        if ir r19 then
        if r19 = 0 then
          L 2 i1 l2 i4 g19
        else
          L 1 i1 l2 i4 g19
        else none
      else
        bd (f_Reader_isActiveHypothesis_26 i4 g) fun r22 g22 =>
        if ir r22 then
        if r22 = 0 then
          L 2 i1 l2 i4 g22
        else
          L 1 i1 l2 i4 g22
        else none
      else none
    else none
  else
    (f_Reader_keepPairs_26 l2 g).bind fun g25 =>
    some g25
  else none
  else none
def b_Reader_beginAssertion_26_1 (L : Nat → Int → Int64 → Int → G2 → Option (G2)) (i1 : Int) (l2 : Int64) (i4 : Int) (g : G2) : Option (G2) :=
  if 0 ≤ i1 ∧ i1 < 40 then
  L 2 i1 l2 i4 (gB g 14 i1 ((rB g 14 i1) ||| (am_shl (Int64.ofNat 1) i4)))
  else none
def b_Reader_beginAssertion_26_2 (L : Nat → Int → Int64 → Int → G2 → Option (G2)) (i1 : Int) (l2 : Int64) (i4 : Int) (g : G2) : Option (G2) :=
  L 0 i1 l2 (i4 + 1) g
def l_Reader_beginAssertion_26 : Nat → Nat → Int → Int64 → Int → G2 → Option (G2)
  | 0 => fun _ _ _ _ _ => none
  | n + 1 => fun t i1 l2 i4 g => match t with
    | 0 => b_Reader_beginAssertion_26_0 (l_Reader_beginAssertion_26 n) i1 l2 i4 g
    | 1 => b_Reader_beginAssertion_26_1 (l_Reader_beginAssertion_26 n) i1 l2 i4 g
    | _ => b_Reader_beginAssertion_26_2 (l_Reader_beginAssertion_26 n) i1 l2 i4 g
set_option maxHeartbeats 4000000 in
set_option maxRecDepth 100000 in
theorem rl_Reader_beginAssertion_26 (d : Nat) : ∀ (n : Nat) (i1 : Int) (l2 : Int64) (i4 : Int) (g : G2) (g' : G2), (l_Reader_beginAssertion_26 n 0 i1 l2 i4 g = some g' → Rt (d + 2) m_Reader_beginAssertion 43 [some (vR 26), some (vI i1), some (vL l2), none, some (vI i4), none, none] [] g none g') ∧ (l_Reader_beginAssertion_26 n 1 i1 l2 i4 g = some g' → Rt (d + 2) m_Reader_beginAssertion 116 [some (vR 26), some (vI i1), some (vL l2), none, some (vI i4), none, none] [] g none g') ∧ (l_Reader_beginAssertion_26 n 2 i1 l2 i4 g = some g' → Rt (d + 2) m_Reader_beginAssertion 132 [some (vR 26), some (vI i1), some (vL l2), none, some (vI i4), none, none] [] g none g') := by
  intro n
  induction n with
  | zero => intro i1 l2 i4 g g'; exact ⟨fun hf => (by cases hf), fun hf => (by cases hf), fun hf => (by cases hf)⟩
  | succ n ih =>
    intro i1 l2 i4 g g'
    refine ⟨?_, ?_, ?_⟩
    · intro hf
      replace hf : b_Reader_beginAssertion_26_0 (l_Reader_beginAssertion_26 n) i1 l2 i4 g = some g' := hf
      unfold b_Reader_beginAssertion_26_0 at hf
      have h4 : ir i4 := by
        by_cases q : ir i4
        · exact q
        · rw [if_neg q] at hf; cases hf
      rw [if_pos h4] at hf
      have h5 : ir i1 := by
        by_cases q : ir i1
        · exact q
        · rw [if_neg q] at hf; cases hf
      rw [if_pos h5] at hf
      by_cases h6 : i4 < i1
      · rw [if_pos h6] at hf
        refine Rt.path ok_Reader_beginAssertion 3 [0] rfl ⟨⟨⟨h4, h5⟩, h6⟩, trivial⟩ ?_
        have h7 : 0 ≤ i4 ∧ i4 < 40 := by
          by_cases q : 0 ≤ i4 ∧ i4 < 40
          · exact q
          · rw [if_neg q] at hf; cases hf
        rw [if_pos h7] at hf
        by_cases h8 : ((rB g 13 i4) &&& l2) = (Int64.ofNat 0)
        · rw [if_pos h8] at hf
          refine Rt.path ok_Reader_beginAssertion 11 [1] rfl ⟨(ix_40 h7), ⟨(am_cmpIn _ _), (am_cmp0.mpr h8)⟩, trivial⟩ ?_
          have h9 : ir (rA g 9 i4) := by
            by_cases q : ir (rA g 9 i4)
            · exact q
            · rw [if_neg q] at hf; cases hf
          rw [if_pos h9] at hf
          by_cases h10 : (rA g 9 i4) = 1
          · rw [if_pos h10] at hf
            refine Rt.path ok_Reader_beginAssertion 9 [0] rfl ⟨(ix_40 h7), ⟨⟨h9, (show ir 1 by decide)⟩, h10⟩, trivial⟩ ?_
            obtain ⟨r11, g11, e11, hf⟩ := bd_inv hf
            refine Rt.path ok_Reader_beginAssertion 5 [] rfl trivial ?_
            refine Rt.callV ok_Reader_beginAssertion rfl ml_Reader_233 [vI _] cf_Reader_isActiveHypothesis rfl rfl (c_Reader_isActiveHypothesis_26 (d + 1) _ _ _ _ e11) (Nat.le_of_ble_eq_true rfl) ?_
            have h12 : ir r11 := by
              by_cases q : ir r11
              · exact q
              · rw [if_neg q] at hf; cases hf
            rw [if_pos h12] at hf
            by_cases h13 : r11 = 0
            · rw [if_pos h13] at hf
              refine Rt.path ok_Reader_beginAssertion 1 [1] rfl ⟨⟨h12, h13⟩, trivial⟩ ?_
              exact Rt.weak ((ih _ _ _ _ _).2.2 hf) ⟨rfl, rfl, rfl, rfl, trivial⟩
            · rw [if_neg h13] at hf
              refine Rt.path ok_Reader_beginAssertion 1 [0] rfl ⟨⟨h12, h13⟩, trivial⟩ ?_
              refine Rt.path ok_Reader_beginAssertion 2 [1] rfl ⟨⟨(show ir 1 by decide), (show ¬ (1 : Int) = (0 : Int) by decide)⟩, trivial⟩ ?_
              exact Rt.weak ((ih _ _ _ _ _).2.1 hf) ⟨rfl, rfl, rfl, rfl, trivial⟩
          · rw [if_neg h10] at hf
            refine Rt.path ok_Reader_beginAssertion 9 [1] rfl ⟨(ix_40 h7), ⟨⟨h9, (show ir 1 by decide)⟩, h10⟩, trivial⟩ ?_
            obtain ⟨r14, g14, e14, hf⟩ := bd_inv hf
            refine Rt.path ok_Reader_beginAssertion 4 [] rfl trivial ?_
            refine Rt.callV ok_Reader_beginAssertion rfl ml_Reader_233 [vI _] cf_Reader_isActiveHypothesis rfl rfl (c_Reader_isActiveHypothesis_26 (d + 1) _ _ _ _ e14) (Nat.le_of_ble_eq_true rfl) ?_
            have h15 : ir r14 := by
              by_cases q : ir r14
              · exact q
              · rw [if_neg q] at hf; cases hf
            rw [if_pos h15] at hf
            by_cases h16 : r14 = 0
            · rw [if_pos h16] at hf
              refine Rt.path ok_Reader_beginAssertion 1 [1] rfl ⟨⟨h15, h16⟩, trivial⟩ ?_
              exact Rt.weak ((ih _ _ _ _ _).2.2 hf) ⟨rfl, rfl, rfl, rfl, trivial⟩
            · rw [if_neg h16] at hf
              refine Rt.path ok_Reader_beginAssertion 1 [0] rfl ⟨⟨h15, h16⟩, trivial⟩ ?_
              refine Rt.path ok_Reader_beginAssertion 4 [0, 1] rfl ⟨⟨(show ir 0 by decide), (show (0 : Int) = (0 : Int) by decide)⟩, ⟨(show ir 0 by decide), (show (0 : Int) = (0 : Int) by decide)⟩, trivial⟩ ?_
              exact Rt.weak ((ih _ _ _ _ _).2.2 hf) ⟨rfl, rfl, rfl, rfl, trivial⟩
        · rw [if_neg h8] at hf
          refine Rt.path ok_Reader_beginAssertion 11 [0] rfl ⟨(ix_40 h7), ⟨(am_cmpIn _ _), (fun q => h8 (am_cmp0.mp q))⟩, trivial⟩ ?_
          have h17 : ir (rA g 9 i4) := by
            by_cases q : ir (rA g 9 i4)
            · exact q
            · rw [if_neg q] at hf; cases hf
          rw [if_pos h17] at hf
          by_cases h18 : (rA g 9 i4) = 1
          · rw [if_pos h18] at hf
            refine Rt.path ok_Reader_beginAssertion 10 [0] rfl ⟨(ix_40 h7), ⟨⟨h17, (show ir 1 by decide)⟩, h18⟩, trivial⟩ ?_
            obtain ⟨r19, g19, e19, hf⟩ := bd_inv hf
            refine Rt.path ok_Reader_beginAssertion 5 [] rfl trivial ?_
            refine Rt.callV ok_Reader_beginAssertion rfl ml_Reader_233 [vI _] cf_Reader_isActiveHypothesis rfl rfl (c_Reader_isActiveHypothesis_26 (d + 1) _ _ _ _ e19) (Nat.le_of_ble_eq_true rfl) ?_
            have h20 : ir r19 := by
              by_cases q : ir r19
              · exact q
              · rw [if_neg q] at hf; cases hf
            rw [if_pos h20] at hf
            by_cases h21 : r19 = 0
            · rw [if_pos h21] at hf
              refine Rt.path ok_Reader_beginAssertion 1 [1] rfl ⟨⟨h20, h21⟩, trivial⟩ ?_
              exact Rt.weak ((ih _ _ _ _ _).2.2 hf) ⟨rfl, rfl, rfl, rfl, trivial⟩
            · rw [if_neg h21] at hf
              refine Rt.path ok_Reader_beginAssertion 1 [0] rfl ⟨⟨h20, h21⟩, trivial⟩ ?_
              refine Rt.path ok_Reader_beginAssertion 2 [1] rfl ⟨⟨(show ir 1 by decide), (show ¬ (1 : Int) = (0 : Int) by decide)⟩, trivial⟩ ?_
              exact Rt.weak ((ih _ _ _ _ _).2.1 hf) ⟨rfl, rfl, rfl, rfl, trivial⟩
          · rw [if_neg h18] at hf
            refine Rt.path ok_Reader_beginAssertion 10 [1] rfl ⟨(ix_40 h7), ⟨⟨h17, (show ir 1 by decide)⟩, h18⟩, trivial⟩ ?_
            obtain ⟨r22, g22, e22, hf⟩ := bd_inv hf
            refine Rt.path ok_Reader_beginAssertion 4 [] rfl trivial ?_
            refine Rt.callV ok_Reader_beginAssertion rfl ml_Reader_233 [vI _] cf_Reader_isActiveHypothesis rfl rfl (c_Reader_isActiveHypothesis_26 (d + 1) _ _ _ _ e22) (Nat.le_of_ble_eq_true rfl) ?_
            have h23 : ir r22 := by
              by_cases q : ir r22
              · exact q
              · rw [if_neg q] at hf; cases hf
            rw [if_pos h23] at hf
            by_cases h24 : r22 = 0
            · rw [if_pos h24] at hf
              refine Rt.path ok_Reader_beginAssertion 1 [1] rfl ⟨⟨h23, h24⟩, trivial⟩ ?_
              exact Rt.weak ((ih _ _ _ _ _).2.2 hf) ⟨rfl, rfl, rfl, rfl, trivial⟩
            · rw [if_neg h24] at hf
              refine Rt.path ok_Reader_beginAssertion 1 [0] rfl ⟨⟨h23, h24⟩, trivial⟩ ?_
              refine Rt.path ok_Reader_beginAssertion 4 [0, 0] rfl ⟨⟨(show ir 0 by decide), (show (0 : Int) = (0 : Int) by decide)⟩, ⟨(show ir 1 by decide), (show ¬ (1 : Int) = (0 : Int) by decide)⟩, trivial⟩ ?_
              exact Rt.weak ((ih _ _ _ _ _).2.1 hf) ⟨rfl, rfl, rfl, rfl, trivial⟩
      · rw [if_neg h6] at hf
        refine Rt.path ok_Reader_beginAssertion 3 [1] rfl ⟨⟨⟨h4, h5⟩, (Int.not_lt.mp h6)⟩, trivial⟩ ?_
        obtain ⟨g25, e25, hf⟩ := Option.bind_eq_some_iff.mp hf
        refine Rt.path ok_Reader_beginAssertion 2 [] rfl trivial ?_
        refine Rt.callV ok_Reader_beginAssertion rfl ml_Reader_236 [vL _] cf_Reader_keepPairs rfl rfl (c_Reader_keepPairs_26 d _ _ _ e25) (Nat.le_of_ble_eq_true rfl) ?_
        cases hf
        exact Rt.retV ok_Reader_beginAssertion rfl rfl
    · intro hf
      replace hf : b_Reader_beginAssertion_26_1 (l_Reader_beginAssertion_26 n) i1 l2 i4 g = some g' := hf
      unfold b_Reader_beginAssertion_26_1 at hf
      have h26 : 0 ≤ i1 ∧ i1 < 40 := by
        by_cases q : 0 ≤ i1 ∧ i1 < 40
        · exact q
        · rw [if_neg q] at hf; cases hf
      rw [if_pos h26] at hf
      refine Rt.path ok_Reader_beginAssertion 11 [] rfl ⟨(ix_40 h26), (ix_40 h26), trivial⟩ ?_
      exact Rt.weak ((ih _ _ _ _ _).2.2 hf) ⟨rfl, rfl, rfl, rfl, trivial⟩
    · intro hf
      replace hf : b_Reader_beginAssertion_26_2 (l_Reader_beginAssertion_26 n) i1 l2 i4 g = some g' := hf
      unfold b_Reader_beginAssertion_26_2 at hf
      refine Rt.path ok_Reader_beginAssertion 2 [] rfl trivial ?_
      exact Rt.weak ((ih _ _ _ _ _).1 hf) ⟨rfl, rfl, rfl, rfl, trivial⟩
def f_Reader_beginAssertion_26 (a1 : Int) (g : G2) : Option (G2) :=
  (f_Assertions_start_17 a1 g).bind fun g1 =>
  if 0 ≤ a1 ∧ a1 < 40 then
  bd (f_Reader_mandatoryVariables_26 a1 (gA g1 15 a1 (rI g1 16 8))) fun r3 g3 =>
  l_Reader_beginAssertion_26 20000 0 a1 r3 0 (gB g3 14 a1 (Int64.ofNat 0))
  else none
set_option maxHeartbeats 4000000 in
set_option maxRecDepth 100000 in
theorem c_Reader_beginAssertion_26 (d : Nat) (a1 : Int) (g : G2) (g' : G2) (hf : f_Reader_beginAssertion_26 a1 g = some g') : C2 (d + 2) m_Reader_beginAssertion [vR 26, vI a1] g none g' := by
  unfold f_Reader_beginAssertion_26 at hf
  refine C2.of rfl rfl rfl (Nat.le_of_ble_eq_true rfl) ?_
  obtain ⟨g1, e1, hf⟩ := Option.bind_eq_some_iff.mp hf
  refine Rt.path ok_Reader_beginAssertion 3 [] rfl trivial ?_
  refine Rt.callV ok_Reader_beginAssertion rfl ml_Reader_219 [vI _] cf_Assertions_start rfl rfl (c_Assertions_start_17 (d + 1) _ _ _ e1) (Nat.le_of_ble_eq_true rfl) ?_
  have h2 : 0 ≤ a1 ∧ a1 < 40 := by
    by_cases q : 0 ≤ a1 ∧ a1 < 40
    · exact q
    · rw [if_neg q] at hf; cases hf
  rw [if_pos h2] at hf
  obtain ⟨r3, g3, e3, hf⟩ := bd_inv hf
  refine Rt.path ok_Reader_beginAssertion 10 [] rfl ⟨(ix_40 h2), trivial⟩ ?_
  refine Rt.callV ok_Reader_beginAssertion rfl ml_Reader_223 [vI _] cf_Reader_mandatoryVariables rfl rfl (c_Reader_mandatoryVariables_26 d _ _ _ _ e3) (Nat.le_of_ble_eq_true rfl) ?_
  refine Rt.path ok_Reader_beginAssertion 9 [] rfl ⟨(ix_40 h2), trivial⟩ ?_
  exact Rt.weak ((rl_Reader_beginAssertion_26 d _ _ _ _ _ _).1 hf) ⟨rfl, rfl, rfl, rfl, trivial⟩
def f_Proof_begin_34  (g : G2) : Option (G2) :=
  some (gI (gI g 34 4 0) 33 7 0)
set_option maxHeartbeats 4000000 in
set_option maxRecDepth 100000 in
theorem c_Proof_begin_34 (d : Nat)  (g : G2) (g' : G2) (hf : f_Proof_begin_34 g = some g') : C2 d m_Proof_begin [vR 34] g none g' := by
  unfold f_Proof_begin_34 at hf
  refine C2.of rfl rfl rfl (Nat.le_of_ble_eq_true rfl) ?_
  cases hf
  refine Rt.path ok_Proof_begin 7 [] rfl ⟨(show (0 : Int) = 0 ∨ (0 : Int) = 1 by decide), trivial⟩ ?_
  exact Rt.retV ok_Proof_begin rfl rfl
def f_Reader_endSymbols_26 (a1 : Int) (g : G2) : Option (Int × G2) :=
  if 0 ≤ (rI g 10 4) ∧ (rI g 10 4) < 40 then
  if ir (rA g 9 (rI g 10 4)) then
  if (rA g 9 (rI g 10 4)) = 3 then
    if ir a1 then
    if a1 = 61 then
      bd (f_Statements_isHypothesis_8 (rI g 10 4) g) fun r6 g6 =>
      if ir r6 then
      if r6 = 0 then
        (f_Reader_beginAssertion_26 (rI g 10 4) g6).bind fun g9 =>
        (f_Proof_begin_34 g9).bind fun g10 =>
        some (0, (gI g10 25 6 10))
      else
        (f_Proof_begin_34 g6).bind fun g11 =>
        some (0, (gI g11 25 6 10))
      else none
    else
      some ((-3), g)
    else none
  else
    if ir a1 then
    if a1 = 46 then
      bd (f_Statements_isHypothesis_8 (rI g 10 4) g) fun r14 g14 =>
      if ir r14 then
      if r14 = 0 then
        (f_Reader_beginAssertion_26 (rI g 10 4) g14).bind fun g17 =>
        bd (f_Reader_declare_26 g17) fun r18 g18 =>
        some (r18, g18)
      else
        bd (f_Reader_declare_26 g14) fun r19 g19 =>
        some (r19, g19)
      else none
    else
      some ((-3), g)
    else none
  else none
  else none
set_option maxHeartbeats 4000000 in
set_option maxRecDepth 100000 in
theorem c_Reader_endSymbols_26 (d : Nat) (a1 : Int) (g : G2) (r : Int) (g' : G2) (hf : f_Reader_endSymbols_26 a1 g = some (r, g')) : C2 (d + 3) m_Reader_endSymbols [vR 26, vI a1] g (some (vI r)) g' := by
  unfold f_Reader_endSymbols_26 at hf
  refine C2.of rfl rfl rfl (Nat.le_of_ble_eq_true rfl) ?_
  have h1 : 0 ≤ (rI g 10 4) ∧ (rI g 10 4) < 40 := by
    by_cases q : 0 ≤ (rI g 10 4) ∧ (rI g 10 4) < 40
    · exact q
    · rw [if_neg q] at hf; cases hf
  rw [if_pos h1] at hf
  have h2 : ir (rA g 9 (rI g 10 4)) := by
    by_cases q : ir (rA g 9 (rI g 10 4))
    · exact q
    · rw [if_neg q] at hf; cases hf
  rw [if_pos h2] at hf
  by_cases h3 : (rA g 9 (rI g 10 4)) = 3
  · rw [if_pos h3] at hf
    refine Rt.path ok_Reader_endSymbols 12 [0] rfl ⟨(ix_40 h1), ⟨⟨h2, (show ir 3 by decide)⟩, h3⟩, trivial⟩ ?_
    have h4 : ir a1 := by
      by_cases q : ir a1
      · exact q
      · rw [if_neg q] at hf; cases hf
    rw [if_pos h4] at hf
    by_cases h5 : a1 = 61
    · rw [if_pos h5] at hf
      refine Rt.path ok_Reader_endSymbols 9 [0, 1] rfl ⟨⟨(show ir 1 by decide), (show ¬ (1 : Int) = (0 : Int) by decide)⟩, ⟨⟨h4, (show ir 61 by decide)⟩, h5⟩, trivial⟩ ?_
      obtain ⟨r6, g6, e6, hf⟩ := bd_inv hf
      refine Rt.path ok_Reader_endSymbols 3 [] rfl trivial ?_
      refine Rt.callV ok_Reader_endSymbols rfl ml_Reader_211 [vI _] cf_Statements_isHypothesis rfl rfl (c_Statements_isHypothesis_8 (d + 2) _ _ _ _ e6) (Nat.le_of_ble_eq_true rfl) ?_
      have h7 : ir r6 := by
        by_cases q : ir r6
        · exact q
        · rw [if_neg q] at hf; cases hf
      rw [if_pos h7] at hf
      by_cases h8 : r6 = 0
      · rw [if_pos h8] at hf
        refine Rt.path ok_Reader_endSymbols 1 [0] rfl ⟨⟨h7, h8⟩, trivial⟩ ?_
        obtain ⟨g9, e9, hf⟩ := Option.bind_eq_some_iff.mp hf
        refine Rt.path ok_Reader_endSymbols 2 [] rfl trivial ?_
        refine Rt.callV ok_Reader_endSymbols rfl ml_Reader_214 [vI _] cf_Reader_beginAssertion rfl rfl (c_Reader_beginAssertion_26 d _ _ _ e9) (Nat.le_of_ble_eq_true rfl) ?_
        obtain ⟨g10, e10, hf⟩ := Option.bind_eq_some_iff.mp hf
        refine Rt.path ok_Reader_endSymbols 4 [1] rfl ⟨⟨(show ir 1 by decide), (show ¬ (1 : Int) = (0 : Int) by decide)⟩, trivial⟩ ?_
        refine Rt.callV ok_Reader_endSymbols rfl ml_Reader_218 [] cf_Proof_begin rfl rfl (c_Proof_begin_34 (d + 2) _ _ e10) (Nat.le_of_ble_eq_true rfl) ?_
        cases hf
        refine Rt.path ok_Reader_endSymbols 4 [] rfl trivial ?_
        exact Rt.retI ok_Reader_endSymbols rfl rfl
      · rw [if_neg h8] at hf
        refine Rt.path ok_Reader_endSymbols 1 [1] rfl ⟨⟨h7, h8⟩, trivial⟩ ?_
        obtain ⟨g11, e11, hf⟩ := Option.bind_eq_some_iff.mp hf
        refine Rt.path ok_Reader_endSymbols 4 [1] rfl ⟨⟨(show ir 1 by decide), (show ¬ (1 : Int) = (0 : Int) by decide)⟩, trivial⟩ ?_
        refine Rt.callV ok_Reader_endSymbols rfl ml_Reader_218 [] cf_Proof_begin rfl rfl (c_Proof_begin_34 (d + 2) _ _ e11) (Nat.le_of_ble_eq_true rfl) ?_
        cases hf
        refine Rt.path ok_Reader_endSymbols 4 [] rfl trivial ?_
        exact Rt.retI ok_Reader_endSymbols rfl rfl
    · rw [if_neg h5] at hf
      refine Rt.path ok_Reader_endSymbols 9 [0, 0] rfl ⟨⟨(show ir 1 by decide), (show ¬ (1 : Int) = (0 : Int) by decide)⟩, ⟨⟨h4, (show ir 61 by decide)⟩, h5⟩, trivial⟩ ?_
      cases hf
      refine Rt.path ok_Reader_endSymbols 1 [] rfl trivial ?_
      exact Rt.retI ok_Reader_endSymbols rfl rfl
  · rw [if_neg h3] at hf
    refine Rt.path ok_Reader_endSymbols 12 [1] rfl ⟨(ix_40 h1), ⟨⟨h2, (show ir 3 by decide)⟩, h3⟩, trivial⟩ ?_
    have h12 : ir a1 := by
      by_cases q : ir a1
      · exact q
      · rw [if_neg q] at hf; cases hf
    rw [if_pos h12] at hf
    by_cases h13 : a1 = 46
    · rw [if_pos h13] at hf
      refine Rt.path ok_Reader_endSymbols 7 [1, 1] rfl ⟨⟨(show ir 0 by decide), (show (0 : Int) = (0 : Int) by decide)⟩, ⟨⟨h12, (show ir 46 by decide)⟩, h13⟩, trivial⟩ ?_
      obtain ⟨r14, g14, e14, hf⟩ := bd_inv hf
      refine Rt.path ok_Reader_endSymbols 3 [] rfl trivial ?_
      refine Rt.callV ok_Reader_endSymbols rfl ml_Reader_211 [vI _] cf_Statements_isHypothesis rfl rfl (c_Statements_isHypothesis_8 (d + 2) _ _ _ _ e14) (Nat.le_of_ble_eq_true rfl) ?_
      have h15 : ir r14 := by
        by_cases q : ir r14
        · exact q
        · rw [if_neg q] at hf; cases hf
      rw [if_pos h15] at hf
      by_cases h16 : r14 = 0
      · rw [if_pos h16] at hf
        refine Rt.path ok_Reader_endSymbols 1 [0] rfl ⟨⟨h15, h16⟩, trivial⟩ ?_
        obtain ⟨g17, e17, hf⟩ := Option.bind_eq_some_iff.mp hf
        refine Rt.path ok_Reader_endSymbols 2 [] rfl trivial ?_
        refine Rt.callV ok_Reader_endSymbols rfl ml_Reader_214 [vI _] cf_Reader_beginAssertion rfl rfl (c_Reader_beginAssertion_26 d _ _ _ e17) (Nat.le_of_ble_eq_true rfl) ?_
        obtain ⟨r18, g18, e18, hf⟩ := bd_inv hf
        refine Rt.path ok_Reader_endSymbols 3 [0] rfl ⟨⟨(show ir 0 by decide), (show (0 : Int) = (0 : Int) by decide)⟩, trivial⟩ ?_
        refine Rt.callV ok_Reader_endSymbols rfl ml_Reader_91 [] cf_Reader_declare rfl rfl (c_Reader_declare_26 (d + 1) _ _ _ e18) (Nat.le_of_ble_eq_true rfl) ?_
        cases hf
        exact Rt.retI ok_Reader_endSymbols rfl rfl
      · rw [if_neg h16] at hf
        refine Rt.path ok_Reader_endSymbols 1 [1] rfl ⟨⟨h15, h16⟩, trivial⟩ ?_
        obtain ⟨r19, g19, e19, hf⟩ := bd_inv hf
        refine Rt.path ok_Reader_endSymbols 3 [0] rfl ⟨⟨(show ir 0 by decide), (show (0 : Int) = (0 : Int) by decide)⟩, trivial⟩ ?_
        refine Rt.callV ok_Reader_endSymbols rfl ml_Reader_91 [] cf_Reader_declare rfl rfl (c_Reader_declare_26 (d + 1) _ _ _ e19) (Nat.le_of_ble_eq_true rfl) ?_
        cases hf
        exact Rt.retI ok_Reader_endSymbols rfl rfl
    · rw [if_neg h13] at hf
      refine Rt.path ok_Reader_endSymbols 7 [1, 0] rfl ⟨⟨(show ir 0 by decide), (show (0 : Int) = (0 : Int) by decide)⟩, ⟨⟨h12, (show ir 46 by decide)⟩, h13⟩, trivial⟩ ?_
      cases hf
      refine Rt.path ok_Reader_endSymbols 1 [] rfl trivial ?_
      exact Rt.retI ok_Reader_endSymbols rfl rfl
def b_Expressions_isSame_35_11_0 (L : Nat → Int → Int → Int → G2 → Option (Int × G2)) (i1 : Int) (i3 : Int) (i4 : Int) (g : G2) : Option (Int × G2) :=
  if 0 ≤ i1 ∧ i1 < 16 then
  if ir i4 then
  if ir (rA g 36 i1) then
  if i4 < (rA g 36 i1) then
    if 0 ≤ ((i1 * 24) + i4) ∧ ((i1 * 24) + i4) < 384 then
    if 0 ≤ ((i3 * 24) + i4) ∧ ((i3 * 24) + i4) < 960 then
    if ir (rA g 35 ((i1 * 24) + i4)) then
    if ir (rA g 11 ((i3 * 24) + i4)) then
    if (rA g 35 ((i1 * 24) + i4)) = (rA g 11 ((i3 * 24) + i4)) then
      L 0 i1 i3 (i4 + 1) g
    else
      some (0, g)
    else none
    else none
    else none
    else none
  else
    some (1, g)
  else none
  else none
  else none
def l_Expressions_isSame_35_11 : Nat → Nat → Int → Int → Int → G2 → Option (Int × G2)
  | 0 => fun _ _ _ _ _ => none
  | n + 1 => fun t i1 i3 i4 g => match t with
    | _ => b_Expressions_isSame_35_11_0 (l_Expressions_isSame_35_11 n) i1 i3 i4 g
set_option maxHeartbeats 4000000 in
set_option maxRecDepth 100000 in
theorem rl_Expressions_isSame_35_11 (d : Nat) : ∀ (n : Nat) (i1 : Int) (i3 : Int) (i4 : Int) (g : G2) (r : Int) (g' : G2), (l_Expressions_isSame_35_11 n 0 i1 i3 i4 g = some (r, g') → Rt d m_Expressions_isSame 20 [some (vR 35), some (vI i1), some (vR 11), some (vI i3), some (vI i4)] [] g (some (vI r)) g') := by
  intro n
  induction n with
  | zero => intro i1 i3 i4 g r g'; exact fun hf => by cases hf
  | succ n ih =>
    intro i1 i3 i4 g r g'
    intro hf
    replace hf : b_Expressions_isSame_35_11_0 (l_Expressions_isSame_35_11 n) i1 i3 i4 g = some (r, g') := hf
    unfold b_Expressions_isSame_35_11_0 at hf
    have h6 : 0 ≤ i1 ∧ i1 < 16 := by
      by_cases q : 0 ≤ i1 ∧ i1 < 16
      · exact q
      · rw [if_neg q] at hf; cases hf
    rw [if_pos h6] at hf
    have h7 : ir i4 := by
      by_cases q : ir i4
      · exact q
      · rw [if_neg q] at hf; cases hf
    rw [if_pos h7] at hf
    have h8 : ir (rA g 36 i1) := by
      by_cases q : ir (rA g 36 i1)
      · exact q
      · rw [if_neg q] at hf; cases hf
    rw [if_pos h8] at hf
    by_cases h9 : i4 < (rA g 36 i1)
    · rw [if_pos h9] at hf
      refine Rt.path ok_Expressions_isSame 6 [0] rfl ⟨(ix_16 h6), ⟨⟨h7, h8⟩, h9⟩, trivial⟩ ?_
      have h10 : 0 ≤ ((i1 * 24) + i4) ∧ ((i1 * 24) + i4) < 384 := by
        by_cases q : 0 ≤ ((i1 * 24) + i4) ∧ ((i1 * 24) + i4) < 384
        · exact q
        · rw [if_neg q] at hf; cases hf
      rw [if_pos h10] at hf
      have h11 : 0 ≤ ((i3 * 24) + i4) ∧ ((i3 * 24) + i4) < 960 := by
        by_cases q : 0 ≤ ((i3 * 24) + i4) ∧ ((i3 * 24) + i4) < 960
        · exact q
        · rw [if_neg q] at hf; cases hf
      rw [if_pos h11] at hf
      have h12 : ir (rA g 35 ((i1 * 24) + i4)) := by
        by_cases q : ir (rA g 35 ((i1 * 24) + i4))
        · exact q
        · rw [if_neg q] at hf; cases hf
      rw [if_pos h12] at hf
      have h13 : ir (rA g 11 ((i3 * 24) + i4)) := by
        by_cases q : ir (rA g 11 ((i3 * 24) + i4))
        · exact q
        · rw [if_neg q] at hf; cases hf
      rw [if_pos h13] at hf
      by_cases h14 : (rA g 35 ((i1 * 24) + i4)) = (rA g 11 ((i3 * 24) + i4))
      · rw [if_pos h14] at hf
        refine Rt.path ok_Expressions_isSame 17 [1] rfl ⟨(ix_384 h10), (ix_960 h11), ⟨⟨h12, h13⟩, h14⟩, trivial⟩ ?_
        refine Rt.path ok_Expressions_isSame 2 [] rfl trivial ?_
        exact Rt.weak ((ih _ _ _ _ _ _) hf) ⟨rfl, rfl, rfl, rfl, rfl, trivial⟩
      · rw [if_neg h14] at hf
        refine Rt.path ok_Expressions_isSame 17 [0] rfl ⟨(ix_384 h10), (ix_960 h11), ⟨⟨h12, h13⟩, h14⟩, trivial⟩ ?_
        cases hf
        refine Rt.path ok_Expressions_isSame 1 [] rfl trivial ?_
        exact Rt.retZ ok_Expressions_isSame (show (0 : Int) = 0 ∨ (0 : Int) = 1 by decide) rfl rfl
    · rw [if_neg h9] at hf
      refine Rt.path ok_Expressions_isSame 6 [1] rfl ⟨(ix_16 h6), ⟨⟨h7, h8⟩, (Int.not_lt.mp h9)⟩, trivial⟩ ?_
      cases hf
      refine Rt.path ok_Expressions_isSame 1 [] rfl trivial ?_
      exact Rt.retZ ok_Expressions_isSame (show (1 : Int) = 0 ∨ (1 : Int) = 1 by decide) rfl rfl
def f_Expressions_isSame_35_11 (a1 : Int) (a3 : Int) (g : G2) : Option (Int × G2) :=
  if 0 ≤ a1 ∧ a1 < 16 then
  if 0 ≤ a3 ∧ a3 < 40 then
  if ir (rA g 36 a1) then
  if ir (rA g 12 a3) then
  if (rA g 36 a1) = (rA g 12 a3) then
    l_Expressions_isSame_35_11 20000 0 a1 a3 0 g
  else
    some (0, g)
  else none
  else none
  else none
  else none
set_option maxHeartbeats 4000000 in
set_option maxRecDepth 100000 in
theorem c_Expressions_isSame_35_11 (d : Nat) (a1 : Int) (a3 : Int) (g : G2) (r : Int) (g' : G2) (hf : f_Expressions_isSame_35_11 a1 a3 g = some (r, g')) : C2 d m_Expressions_isSame [vR 35, vI a1, vR 11, vI a3] g (some (vI r)) g' := by
  unfold f_Expressions_isSame_35_11 at hf
  refine C2.of rfl rfl rfl (Nat.le_of_ble_eq_true rfl) ?_
  have h1 : 0 ≤ a1 ∧ a1 < 16 := by
    by_cases q : 0 ≤ a1 ∧ a1 < 16
    · exact q
    · rw [if_neg q] at hf; cases hf
  rw [if_pos h1] at hf
  have h2 : 0 ≤ a3 ∧ a3 < 40 := by
    by_cases q : 0 ≤ a3 ∧ a3 < 40
    · exact q
    · rw [if_neg q] at hf; cases hf
  rw [if_pos h2] at hf
  have h3 : ir (rA g 36 a1) := by
    by_cases q : ir (rA g 36 a1)
    · exact q
    · rw [if_neg q] at hf; cases hf
  rw [if_pos h3] at hf
  have h4 : ir (rA g 12 a3) := by
    by_cases q : ir (rA g 12 a3)
    · exact q
    · rw [if_neg q] at hf; cases hf
  rw [if_pos h4] at hf
  by_cases h5 : (rA g 36 a1) = (rA g 12 a3)
  · rw [if_pos h5] at hf
    refine Rt.path ok_Expressions_isSame 9 [1] rfl ⟨(ix_16 h1), (ix_40 h2), ⟨⟨h3, h4⟩, h5⟩, trivial⟩ ?_
    refine Rt.path ok_Expressions_isSame 2 [] rfl trivial ?_
    exact Rt.weak ((rl_Expressions_isSame_35_11 d _ _ _ _ _ _ _) hf) ⟨rfl, rfl, rfl, rfl, rfl, trivial⟩
  · rw [if_neg h5] at hf
    refine Rt.path ok_Expressions_isSame 9 [0] rfl ⟨(ix_16 h1), (ix_40 h2), ⟨⟨h3, h4⟩, h5⟩, trivial⟩ ?_
    cases hf
    refine Rt.path ok_Expressions_isSame 1 [] rfl trivial ?_
    exact Rt.retZ ok_Expressions_isSame (show (0 : Int) = 0 ∨ (0 : Int) = 1 by decide) rfl rfl
def f_Proof_finish_34 (a1 : Int) (g : G2) : Option (Int × G2) :=
  if ir (rI g 33 7) then
  if (rI g 33 7) = 0 then
    if ir (rI g 34 4) then
    if (rI g 34 4) = 1 then
      bd (f_Expressions_isSame_35_11 0 a1 g) fun r5 g5 =>
      if ir r5 then
      if r5 = 0 then
        some ((-10), g5)
      else
        some (0, g5)
      else none
    else
      some ((-9), g)
    else none
  else
    some (0, g)
  else none
set_option maxHeartbeats 4000000 in
set_option maxRecDepth 100000 in
theorem c_Proof_finish_34 (d : Nat) (a1 : Int) (g : G2) (r : Int) (g' : G2) (hf : f_Proof_finish_34 a1 g = some (r, g')) : C2 (d + 1) m_Proof_finish [vR 34, vI a1] g (some (vI r)) g' := by
  unfold f_Proof_finish_34 at hf
  refine C2.of rfl rfl rfl (Nat.le_of_ble_eq_true rfl) ?_
  have h1 : ir (rI g 33 7) := by
    by_cases q : ir (rI g 33 7)
    · exact q
    · rw [if_neg q] at hf; cases hf
  rw [if_pos h1] at hf
  by_cases h2 : (rI g 33 7) = 0
  · rw [if_pos h2] at hf
    refine Rt.path ok_Proof_finish 3 [1] rfl ⟨⟨h1, h2⟩, trivial⟩ ?_
    have h3 : ir (rI g 34 4) := by
      by_cases q : ir (rI g 34 4)
      · exact q
      · rw [if_neg q] at hf; cases hf
    rw [if_pos h3] at hf
    by_cases h4 : (rI g 34 4) = 1
    · rw [if_pos h4] at hf
      refine Rt.path ok_Proof_finish 5 [1] rfl ⟨⟨⟨h3, (show ir 1 by decide)⟩, h4⟩, trivial⟩ ?_
      obtain ⟨r5, g5, e5, hf⟩ := bd_inv hf
      refine Rt.path ok_Proof_finish 7 [] rfl trivial ?_
      refine Rt.callV ok_Proof_finish rfl ml_Proof_117 [vI _, vR 11, vI _] cf_Expressions_isSame rfl rfl (c_Expressions_isSame_35_11 d _ _ _ _ _ e5) (Nat.le_of_ble_eq_true rfl) ?_
      have h6 : ir r5 := by
        by_cases q : ir r5
        · exact q
        · rw [if_neg q] at hf; cases hf
      rw [if_pos h6] at hf
      by_cases h7 : r5 = 0
      · rw [if_pos h7] at hf
        refine Rt.path ok_Proof_finish 1 [1] rfl ⟨⟨h6, h7⟩, trivial⟩ ?_
        cases hf
        refine Rt.path ok_Proof_finish 1 [] rfl trivial ?_
        exact Rt.retI ok_Proof_finish rfl rfl
      · rw [if_neg h7] at hf
        refine Rt.path ok_Proof_finish 1 [0] rfl ⟨⟨h6, h7⟩, trivial⟩ ?_
        cases hf
        refine Rt.path ok_Proof_finish 2 [] rfl trivial ?_
        exact Rt.retI ok_Proof_finish rfl rfl
    · rw [if_neg h4] at hf
      refine Rt.path ok_Proof_finish 5 [0] rfl ⟨⟨⟨h3, (show ir 1 by decide)⟩, h4⟩, trivial⟩ ?_
      cases hf
      refine Rt.path ok_Proof_finish 1 [] rfl trivial ?_
      exact Rt.retI ok_Proof_finish rfl rfl
  · rw [if_neg h2] at hf
    refine Rt.path ok_Proof_finish 3 [0] rfl ⟨⟨h1, h2⟩, trivial⟩ ?_
    cases hf
    refine Rt.path ok_Proof_finish 1 [] rfl trivial ?_
    exact Rt.retI ok_Proof_finish rfl rfl
def f_Reader_endProof_26  (g : G2) : Option (Int × G2) :=
  if ir (rI g 25 6) then
  if (rI g 25 6) = 13 then
    if ir (rI g 43 8) then
    if (rI g 43 8) = 0 then
      bd (f_Proof_finish_34 (rI g 10 4) g) fun r5 g5 =>
      if ir r5 then
      if r5 = 0 then
        bd (f_Reader_declare_26 g5) fun r8 g8 =>
        some (r8, g8)
      else
        some (r5, g5)
      else none
    else
      some ((-8), g)
    else none
  else
    bd (f_Proof_finish_34 (rI g 10 4) g) fun r9 g9 =>
    if ir r9 then
    if r9 = 0 then
      bd (f_Reader_declare_26 g9) fun r12 g12 =>
      some (r12, g12)
    else
      some (r9, g9)
    else none
  else none
set_option maxHeartbeats 4000000 in
set_option maxRecDepth 100000 in
theorem c_Reader_endProof_26 (d : Nat)  (g : G2) (r : Int) (g' : G2) (hf : f_Reader_endProof_26 g = some (r, g')) : C2 (d + 2) m_Reader_endProof [vR 26] g (some (vI r)) g' := by
  unfold f_Reader_endProof_26 at hf
  refine C2.of rfl rfl rfl (Nat.le_of_ble_eq_true rfl) ?_
  have h1 : ir (rI g 25 6) := by
    by_cases q : ir (rI g 25 6)
    · exact q
    · rw [if_neg q] at hf; cases hf
  rw [if_pos h1] at hf
  by_cases h2 : (rI g 25 6) = 13
  · rw [if_pos h2] at hf
    refine Rt.path ok_Reader_endProof 4 [0] rfl ⟨⟨⟨h1, (show ir 13 by decide)⟩, h2⟩, trivial⟩ ?_
    have h3 : ir (rI g 43 8) := by
      by_cases q : ir (rI g 43 8)
      · exact q
      · rw [if_neg q] at hf; cases hf
    rw [if_pos h3] at hf
    by_cases h4 : (rI g 43 8) = 0
    · rw [if_pos h4] at hf
      refine Rt.path ok_Reader_endProof 4 [1] rfl ⟨⟨h3, h4⟩, trivial⟩ ?_
      obtain ⟨r5, g5, e5, hf⟩ := bd_inv hf
      refine Rt.path ok_Reader_endProof 6 [] rfl trivial ?_
      refine Rt.callV ok_Reader_endProof rfl ml_Reader_281 [vI _] cf_Proof_finish rfl rfl (c_Proof_finish_34 d _ _ _ _ e5) (Nat.le_of_ble_eq_true rfl) ?_
      have h6 : ir r5 := by
        by_cases q : ir r5
        · exact q
        · rw [if_neg q] at hf; cases hf
      rw [if_pos h6] at hf
      by_cases h7 : r5 = 0
      · rw [if_pos h7] at hf
        refine Rt.path ok_Reader_endProof 3 [0] rfl ⟨⟨h6, h7⟩, trivial⟩ ?_
        obtain ⟨r8, g8, e8, hf⟩ := bd_inv hf
        refine Rt.path ok_Reader_endProof 1 [] rfl trivial ?_
        refine Rt.callV ok_Reader_endProof rfl ml_Reader_91 [] cf_Reader_declare rfl rfl (c_Reader_declare_26 d _ _ _ e8) (Nat.le_of_ble_eq_true rfl) ?_
        cases hf
        refine Rt.path ok_Reader_endProof 1 [] rfl trivial ?_
        exact Rt.retI ok_Reader_endProof rfl rfl
      · rw [if_neg h7] at hf
        refine Rt.path ok_Reader_endProof 3 [1] rfl ⟨⟨h6, h7⟩, trivial⟩ ?_
        cases hf
        refine Rt.path ok_Reader_endProof 1 [] rfl trivial ?_
        exact Rt.retI ok_Reader_endProof rfl rfl
    · rw [if_neg h4] at hf
      refine Rt.path ok_Reader_endProof 4 [0] rfl ⟨⟨h3, h4⟩, trivial⟩ ?_
      cases hf
      refine Rt.path ok_Reader_endProof 1 [] rfl trivial ?_
      exact Rt.retI ok_Reader_endProof rfl rfl
  · rw [if_neg h2] at hf
    refine Rt.path ok_Reader_endProof 4 [1] rfl ⟨⟨⟨h1, (show ir 13 by decide)⟩, h2⟩, trivial⟩ ?_
    obtain ⟨r9, g9, e9, hf⟩ := bd_inv hf
    refine Rt.path ok_Reader_endProof 6 [] rfl trivial ?_
    refine Rt.callV ok_Reader_endProof rfl ml_Reader_281 [vI _] cf_Proof_finish rfl rfl (c_Proof_finish_34 d _ _ _ _ e9) (Nat.le_of_ble_eq_true rfl) ?_
    have h10 : ir r9 := by
      by_cases q : ir r9
      · exact q
      · rw [if_neg q] at hf; cases hf
    rw [if_pos h10] at hf
    by_cases h11 : r9 = 0
    · rw [if_pos h11] at hf
      refine Rt.path ok_Reader_endProof 3 [0] rfl ⟨⟨h10, h11⟩, trivial⟩ ?_
      obtain ⟨r12, g12, e12, hf⟩ := bd_inv hf
      refine Rt.path ok_Reader_endProof 1 [] rfl trivial ?_
      refine Rt.callV ok_Reader_endProof rfl ml_Reader_91 [] cf_Reader_declare rfl rfl (c_Reader_declare_26 d _ _ _ e12) (Nat.le_of_ble_eq_true rfl) ?_
      cases hf
      refine Rt.path ok_Reader_endProof 1 [] rfl trivial ?_
      exact Rt.retI ok_Reader_endProof rfl rfl
    · rw [if_neg h11] at hf
      refine Rt.path ok_Reader_endProof 3 [1] rfl ⟨⟨h10, h11⟩, trivial⟩ ?_
      cases hf
      refine Rt.path ok_Reader_endProof 1 [] rfl trivial ?_
      exact Rt.retI ok_Reader_endProof rfl rfl
def f_Reader_takeKeyword_26_2  (g : G2) : Option (Int × G2) :=
  bd (f_Text_keyword_2 g) fun r1 g1 =>
  if ir (rI g1 25 6) then
  if (rI g1 25 6) = 0 then
    bd (f_Reader_beginUnlabelled_26 r1 g1) fun r3 g3 =>
    some (r3, g3)
  else
  if (rI g1 25 6) = 1 then
    bd (f_Reader_endNames_26 r1 g1) fun r4 g4 =>
    some (r4, g4)
  else
  if (rI g1 25 6) = 2 then
    bd (f_Reader_endNames_26 r1 g1) fun r5 g5 =>
    some (r5, g5)
  else
  if (rI g1 25 6) = 3 then
    bd (f_Reader_endNames_26 r1 g1) fun r6 g6 =>
    some (r6, g6)
  else
  if (rI g1 25 6) = 4 then
    bd (f_Reader_takeKind_26 r1 g1) fun r7 g7 =>
    some (r7, g7)
  else
  if (rI g1 25 6) = 5 then
    some ((-3), g1)
  else
  if (rI g1 25 6) = 6 then
    some ((-3), g1)
  else
  if (rI g1 25 6) = 7 then
    if ir r1 then
    if r1 = 46 then
      bd (f_Reader_declare_26 g1) fun r10 g10 =>
      some (r10, g10)
    else
      some ((-3), g1)
    else none
  else
  if (rI g1 25 6) = 8 then
    some ((-3), g1)
  else
  if (rI g1 25 6) = 9 then
    bd (f_Reader_endSymbols_26 r1 g1) fun r11 g11 =>
    some (r11, g11)
  else
  if (rI g1 25 6) = 10 then
    if ir r1 then
    if r1 = 46 then
      bd (f_Reader_endProof_26 g1) fun r14 g14 =>
      some (r14, g14)
    else
      some ((-3), g1)
    else none
  else
  if (rI g1 25 6) = 11 then
    if ir r1 then
    if r1 = 46 then
      bd (f_Reader_endProof_26 g1) fun r17 g17 =>
      some (r17, g17)
    else
      some ((-3), g1)
    else none
  else
  if (rI g1 25 6) = 12 then
    some ((-3), g1)
  else
  if (rI g1 25 6) = 13 then
    if ir r1 then
    if r1 = 46 then
      bd (f_Reader_endProof_26 g1) fun r20 g20 =>
      some (r20, g20)
    else
      some ((-3), g1)
    else none
  else
    some ((-3), g1)
  else none
set_option maxHeartbeats 4000000 in
set_option maxRecDepth 100000 in
theorem c_Reader_takeKeyword_26_2 (d : Nat)  (g : G2) (r : Int) (g' : G2) (hf : f_Reader_takeKeyword_26_2 g = some (r, g')) : C2 (d + 5) m_Reader_takeKeyword [vR 26, vR 2] g (some (vI r)) g' := by
  unfold f_Reader_takeKeyword_26_2 at hf
  refine C2.of rfl rfl rfl (Nat.le_of_ble_eq_true rfl) ?_
  obtain ⟨r1, g1, e1, hf⟩ := bd_inv hf
  refine Rt.path ok_Reader_takeKeyword 1 [] rfl trivial ?_
  refine Rt.callV ok_Reader_takeKeyword rfl ml_Reader_75 [] cf_Text_keyword rfl rfl (c_Text_keyword_2 (d + 4) _ _ _ e1) (Nat.le_of_ble_eq_true rfl) ?_
  have h2 : ir (rI g1 25 6) := by
    by_cases q : ir (rI g1 25 6)
    · exact q
    · rw [if_neg q] at hf; cases hf
  rw [if_pos h2] at hf
  by_cases h21_0 : (rI g1 25 6) = 0
  · rw [if_pos h21_0] at hf
    refine Rt.path ok_Reader_takeKeyword 4 [0] rfl ⟨⟨h2, (show (rI g1 25 6) = 0 + ((0 : Nat) : Int) by omega), (show (rI g1 25 6) ≤ 13 by omega), by decide⟩, trivial⟩ ?_
    obtain ⟨r3, g3, e3, hf⟩ := bd_inv hf
    refine Rt.path ok_Reader_takeKeyword 2 [] rfl trivial ?_
    refine Rt.callV ok_Reader_takeKeyword rfl ml_Reader_81 [vI _] cf_Reader_beginUnlabelled rfl rfl (c_Reader_beginUnlabelled_26 d _ _ _ _ e3) (Nat.le_of_ble_eq_true rfl) ?_
    cases hf
    exact Rt.retI ok_Reader_takeKeyword rfl rfl
  · rw [if_neg h21_0] at hf
    by_cases h21_1 : (rI g1 25 6) = 1
    · rw [if_pos h21_1] at hf
      refine Rt.path ok_Reader_takeKeyword 4 [1] rfl ⟨⟨h2, (show (rI g1 25 6) = 0 + ((1 : Nat) : Int) by omega), (show (rI g1 25 6) ≤ 13 by omega), by decide⟩, trivial⟩ ?_
      obtain ⟨r4, g4, e4, hf⟩ := bd_inv hf
      refine Rt.path ok_Reader_takeKeyword 2 [] rfl trivial ?_
      refine Rt.callV ok_Reader_takeKeyword rfl ml_Reader_85 [vI _] cf_Reader_endNames rfl rfl (c_Reader_endNames_26 (d + 4) _ _ _ _ e4) (Nat.le_of_ble_eq_true rfl) ?_
      cases hf
      exact Rt.retI ok_Reader_takeKeyword rfl rfl
    · rw [if_neg h21_1] at hf
      by_cases h21_2 : (rI g1 25 6) = 2
      · rw [if_pos h21_2] at hf
        refine Rt.path ok_Reader_takeKeyword 4 [2] rfl ⟨⟨h2, (show (rI g1 25 6) = 0 + ((2 : Nat) : Int) by omega), (show (rI g1 25 6) ≤ 13 by omega), by decide⟩, trivial⟩ ?_
        obtain ⟨r5, g5, e5, hf⟩ := bd_inv hf
        refine Rt.path ok_Reader_takeKeyword 2 [] rfl trivial ?_
        refine Rt.callV ok_Reader_takeKeyword rfl ml_Reader_85 [vI _] cf_Reader_endNames rfl rfl (c_Reader_endNames_26 (d + 4) _ _ _ _ e5) (Nat.le_of_ble_eq_true rfl) ?_
        cases hf
        exact Rt.retI ok_Reader_takeKeyword rfl rfl
      · rw [if_neg h21_2] at hf
        by_cases h21_3 : (rI g1 25 6) = 3
        · rw [if_pos h21_3] at hf
          refine Rt.path ok_Reader_takeKeyword 4 [3] rfl ⟨⟨h2, (show (rI g1 25 6) = 0 + ((3 : Nat) : Int) by omega), (show (rI g1 25 6) ≤ 13 by omega), by decide⟩, trivial⟩ ?_
          obtain ⟨r6, g6, e6, hf⟩ := bd_inv hf
          refine Rt.path ok_Reader_takeKeyword 2 [] rfl trivial ?_
          refine Rt.callV ok_Reader_takeKeyword rfl ml_Reader_85 [vI _] cf_Reader_endNames rfl rfl (c_Reader_endNames_26 (d + 4) _ _ _ _ e6) (Nat.le_of_ble_eq_true rfl) ?_
          cases hf
          exact Rt.retI ok_Reader_takeKeyword rfl rfl
        · rw [if_neg h21_3] at hf
          by_cases h21_4 : (rI g1 25 6) = 4
          · rw [if_pos h21_4] at hf
            refine Rt.path ok_Reader_takeKeyword 4 [4] rfl ⟨⟨h2, (show (rI g1 25 6) = 0 + ((4 : Nat) : Int) by omega), (show (rI g1 25 6) ≤ 13 by omega), by decide⟩, trivial⟩ ?_
            obtain ⟨r7, g7, e7, hf⟩ := bd_inv hf
            refine Rt.path ok_Reader_takeKeyword 2 [] rfl trivial ?_
            refine Rt.callV ok_Reader_takeKeyword rfl ml_Reader_88 [vI _] cf_Reader_takeKind rfl rfl (c_Reader_takeKind_26 (d + 4) _ _ _ _ e7) (Nat.le_of_ble_eq_true rfl) ?_
            cases hf
            exact Rt.retI ok_Reader_takeKeyword rfl rfl
          · rw [if_neg h21_4] at hf
            by_cases h21_5 : (rI g1 25 6) = 5
            · rw [if_pos h21_5] at hf
              refine Rt.path ok_Reader_takeKeyword 4 [5] rfl ⟨⟨h2, (show (rI g1 25 6) = 0 + ((5 : Nat) : Int) by omega), (show (rI g1 25 6) ≤ 13 by omega), by decide⟩, trivial⟩ ?_
              cases hf
              refine Rt.path ok_Reader_takeKeyword 1 [] rfl trivial ?_
              exact Rt.retI ok_Reader_takeKeyword rfl rfl
            · rw [if_neg h21_5] at hf
              by_cases h21_6 : (rI g1 25 6) = 6
              · rw [if_pos h21_6] at hf
                refine Rt.path ok_Reader_takeKeyword 4 [6] rfl ⟨⟨h2, (show (rI g1 25 6) = 0 + ((6 : Nat) : Int) by omega), (show (rI g1 25 6) ≤ 13 by omega), by decide⟩, trivial⟩ ?_
                cases hf
                refine Rt.path ok_Reader_takeKeyword 1 [] rfl trivial ?_
                exact Rt.retI ok_Reader_takeKeyword rfl rfl
              · rw [if_neg h21_6] at hf
                by_cases h21_7 : (rI g1 25 6) = 7
                · rw [if_pos h21_7] at hf
                  refine Rt.path ok_Reader_takeKeyword 4 [7] rfl ⟨⟨h2, (show (rI g1 25 6) = 0 + ((7 : Nat) : Int) by omega), (show (rI g1 25 6) ≤ 13 by omega), by decide⟩, trivial⟩ ?_
                  have h8 : ir r1 := by
                    by_cases q : ir r1
                    · exact q
                    · rw [if_neg q] at hf; cases hf
                  rw [if_pos h8] at hf
                  by_cases h9 : r1 = 46
                  · rw [if_pos h9] at hf
                    refine Rt.path ok_Reader_takeKeyword 3 [0] rfl ⟨⟨⟨h8, (show ir 46 by decide)⟩, h9⟩, trivial⟩ ?_
                    obtain ⟨r10, g10, e10, hf⟩ := bd_inv hf
                    refine Rt.path ok_Reader_takeKeyword 1 [] rfl trivial ?_
                    refine Rt.callV ok_Reader_takeKeyword rfl ml_Reader_91 [] cf_Reader_declare rfl rfl (c_Reader_declare_26 (d + 3) _ _ _ e10) (Nat.le_of_ble_eq_true rfl) ?_
                    cases hf
                    refine Rt.path ok_Reader_takeKeyword 1 [] rfl trivial ?_
                    exact Rt.retI ok_Reader_takeKeyword rfl rfl
                  · rw [if_neg h9] at hf
                    refine Rt.path ok_Reader_takeKeyword 3 [1] rfl ⟨⟨⟨h8, (show ir 46 by decide)⟩, h9⟩, trivial⟩ ?_
                    cases hf
                    refine Rt.path ok_Reader_takeKeyword 1 [] rfl trivial ?_
                    exact Rt.retI ok_Reader_takeKeyword rfl rfl
                · rw [if_neg h21_7] at hf
                  by_cases h21_8 : (rI g1 25 6) = 8
                  · rw [if_pos h21_8] at hf
                    refine Rt.path ok_Reader_takeKeyword 4 [8] rfl ⟨⟨h2, (show (rI g1 25 6) = 0 + ((8 : Nat) : Int) by omega), (show (rI g1 25 6) ≤ 13 by omega), by decide⟩, trivial⟩ ?_
                    cases hf
                    refine Rt.path ok_Reader_takeKeyword 1 [] rfl trivial ?_
                    exact Rt.retI ok_Reader_takeKeyword rfl rfl
                  · rw [if_neg h21_8] at hf
                    by_cases h21_9 : (rI g1 25 6) = 9
                    · rw [if_pos h21_9] at hf
                      refine Rt.path ok_Reader_takeKeyword 4 [9] rfl ⟨⟨h2, (show (rI g1 25 6) = 0 + ((9 : Nat) : Int) by omega), (show (rI g1 25 6) ≤ 13 by omega), by decide⟩, trivial⟩ ?_
                      obtain ⟨r11, g11, e11, hf⟩ := bd_inv hf
                      refine Rt.path ok_Reader_takeKeyword 2 [] rfl trivial ?_
                      refine Rt.callV ok_Reader_takeKeyword rfl ml_Reader_94 [vI _] cf_Reader_endSymbols rfl rfl (c_Reader_endSymbols_26 (d + 1) _ _ _ _ e11) (Nat.le_of_ble_eq_true rfl) ?_
                      cases hf
                      exact Rt.retI ok_Reader_takeKeyword rfl rfl
                    · rw [if_neg h21_9] at hf
                      by_cases h21_10 : (rI g1 25 6) = 10
                      · rw [if_pos h21_10] at hf
                        refine Rt.path ok_Reader_takeKeyword 4 [10] rfl ⟨⟨h2, (show (rI g1 25 6) = 0 + ((10 : Nat) : Int) by omega), (show (rI g1 25 6) ≤ 13 by omega), by decide⟩, trivial⟩ ?_
                        have h12 : ir r1 := by
                          by_cases q : ir r1
                          · exact q
                          · rw [if_neg q] at hf; cases hf
                        rw [if_pos h12] at hf
                        by_cases h13 : r1 = 46
                        · rw [if_pos h13] at hf
                          refine Rt.path ok_Reader_takeKeyword 3 [0] rfl ⟨⟨⟨h12, (show ir 46 by decide)⟩, h13⟩, trivial⟩ ?_
                          obtain ⟨r14, g14, e14, hf⟩ := bd_inv hf
                          refine Rt.path ok_Reader_takeKeyword 1 [] rfl trivial ?_
                          refine Rt.callV ok_Reader_takeKeyword rfl ml_Reader_97 [] cf_Reader_endProof rfl rfl (c_Reader_endProof_26 (d + 2) _ _ _ e14) (Nat.le_of_ble_eq_true rfl) ?_
                          cases hf
                          refine Rt.path ok_Reader_takeKeyword 1 [] rfl trivial ?_
                          exact Rt.retI ok_Reader_takeKeyword rfl rfl
                        · rw [if_neg h13] at hf
                          refine Rt.path ok_Reader_takeKeyword 3 [1] rfl ⟨⟨⟨h12, (show ir 46 by decide)⟩, h13⟩, trivial⟩ ?_
                          cases hf
                          refine Rt.path ok_Reader_takeKeyword 1 [] rfl trivial ?_
                          exact Rt.retI ok_Reader_takeKeyword rfl rfl
                      · rw [if_neg h21_10] at hf
                        by_cases h21_11 : (rI g1 25 6) = 11
                        · rw [if_pos h21_11] at hf
                          refine Rt.path ok_Reader_takeKeyword 4 [11] rfl ⟨⟨h2, (show (rI g1 25 6) = 0 + ((11 : Nat) : Int) by omega), (show (rI g1 25 6) ≤ 13 by omega), by decide⟩, trivial⟩ ?_
                          have h15 : ir r1 := by
                            by_cases q : ir r1
                            · exact q
                            · rw [if_neg q] at hf; cases hf
                          rw [if_pos h15] at hf
                          by_cases h16 : r1 = 46
                          · rw [if_pos h16] at hf
                            refine Rt.path ok_Reader_takeKeyword 3 [0] rfl ⟨⟨⟨h15, (show ir 46 by decide)⟩, h16⟩, trivial⟩ ?_
                            obtain ⟨r17, g17, e17, hf⟩ := bd_inv hf
                            refine Rt.path ok_Reader_takeKeyword 1 [] rfl trivial ?_
                            refine Rt.callV ok_Reader_takeKeyword rfl ml_Reader_97 [] cf_Reader_endProof rfl rfl (c_Reader_endProof_26 (d + 2) _ _ _ e17) (Nat.le_of_ble_eq_true rfl) ?_
                            cases hf
                            refine Rt.path ok_Reader_takeKeyword 1 [] rfl trivial ?_
                            exact Rt.retI ok_Reader_takeKeyword rfl rfl
                          · rw [if_neg h16] at hf
                            refine Rt.path ok_Reader_takeKeyword 3 [1] rfl ⟨⟨⟨h15, (show ir 46 by decide)⟩, h16⟩, trivial⟩ ?_
                            cases hf
                            refine Rt.path ok_Reader_takeKeyword 1 [] rfl trivial ?_
                            exact Rt.retI ok_Reader_takeKeyword rfl rfl
                        · rw [if_neg h21_11] at hf
                          by_cases h21_12 : (rI g1 25 6) = 12
                          · rw [if_pos h21_12] at hf
                            refine Rt.path ok_Reader_takeKeyword 4 [12] rfl ⟨⟨h2, (show (rI g1 25 6) = 0 + ((12 : Nat) : Int) by omega), (show (rI g1 25 6) ≤ 13 by omega), by decide⟩, trivial⟩ ?_
                            cases hf
                            refine Rt.path ok_Reader_takeKeyword 1 [] rfl trivial ?_
                            exact Rt.retI ok_Reader_takeKeyword rfl rfl
                          · rw [if_neg h21_12] at hf
                            by_cases h21_13 : (rI g1 25 6) = 13
                            · rw [if_pos h21_13] at hf
                              refine Rt.path ok_Reader_takeKeyword 4 [13] rfl ⟨⟨h2, (show (rI g1 25 6) = 0 + ((13 : Nat) : Int) by omega), (show (rI g1 25 6) ≤ 13 by omega), by decide⟩, trivial⟩ ?_
                              have h18 : ir r1 := by
                                by_cases q : ir r1
                                · exact q
                                · rw [if_neg q] at hf; cases hf
                              rw [if_pos h18] at hf
                              by_cases h19 : r1 = 46
                              · rw [if_pos h19] at hf
                                refine Rt.path ok_Reader_takeKeyword 3 [0] rfl ⟨⟨⟨h18, (show ir 46 by decide)⟩, h19⟩, trivial⟩ ?_
                                obtain ⟨r20, g20, e20, hf⟩ := bd_inv hf
                                refine Rt.path ok_Reader_takeKeyword 1 [] rfl trivial ?_
                                refine Rt.callV ok_Reader_takeKeyword rfl ml_Reader_97 [] cf_Reader_endProof rfl rfl (c_Reader_endProof_26 (d + 2) _ _ _ e20) (Nat.le_of_ble_eq_true rfl) ?_
                                cases hf
                                refine Rt.path ok_Reader_takeKeyword 1 [] rfl trivial ?_
                                exact Rt.retI ok_Reader_takeKeyword rfl rfl
                              · rw [if_neg h19] at hf
                                refine Rt.path ok_Reader_takeKeyword 3 [1] rfl ⟨⟨⟨h18, (show ir 46 by decide)⟩, h19⟩, trivial⟩ ?_
                                cases hf
                                refine Rt.path ok_Reader_takeKeyword 1 [] rfl trivial ?_
                                exact Rt.retI ok_Reader_takeKeyword rfl rfl
                            · rw [if_neg h21_13] at hf
                              refine Rt.path ok_Reader_takeKeyword 4 [14] rfl ⟨⟨h2, (show (rI g1 25 6) < 0 ∨ 13 < (rI g1 25 6) by omega), by decide⟩, trivial⟩ ?_
                              cases hf
                              refine Rt.path ok_Reader_takeKeyword 1 [] rfl trivial ?_
                              exact Rt.retI ok_Reader_takeKeyword rfl rfl
