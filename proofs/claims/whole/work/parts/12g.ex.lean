def b_L_read_1_0 (L : Nat → Int → Int → G2 → Option (Int × G2)) (i1 : Int) (i2 : Int) (g : G2) : Option (Int × G2) :=
  if ir i2 then
  if i2 < 1600 then
    if ir i1 then
    if i1 = 0 then
      bd (f_Text_advance_2 g) fun r7 g7 =>
      if ir r7 then
      if r7 = 0 then
        L 1 i1 0 g7
      else
        if ir (rI g7 1 6) then
        if (rI g7 1 6) = 0 then
          bd (f_Reader_takeName_26_2 g7) fun r12 g12 =>
          L 0 r12 (i2 + 1) g12
        else
          bd (f_Reader_takeKeyword_26_2 g7) fun r13 g13 =>
          L 0 r13 (i2 + 1) g13
        else none
      else none
    else
      L 1 i1 0 g
    else none
  else
    L 1 i1 0 g
  else none
def b_L_read_1_1 (L : Nat → Int → Int → G2 → Option (Int × G2)) (i1 : Int) (i2 : Int) (g : G2) : Option (Int × G2) :=
  if ir i1 then
  if i1 = 0 then
    if i1 = 0 then
      if ir (rI g 1 7) then
      if (rI g 1 7) = 0 then
        bd (f_Reader_isInside_26 (gI g 0 5 (-1))) fun r19 g19 =>
        if ir r19 then
        if r19 = 0 then
          L 3 i1 0 g19
        else
          L 2 0 0 g19
        else none
      else
        L 2 0 0 (gI g 0 5 (-1))
      else none
    else
      L 3 i1 0 (gI g 0 5 (-1))
  else
    if i1 = 0 then
      if ir (rI g 1 7) then
      if (rI g 1 7) = 0 then
        bd (f_Reader_isInside_26 (gI g 0 5 ((rI g 1 2) - 1))) fun r25 g25 =>
        if ir r25 then
        if r25 = 0 then
          L 3 i1 0 g25
        else
          L 2 0 0 g25
        else none
      else
        L 2 0 0 (gI g 0 5 ((rI g 1 2) - 1))
      else none
    else
      L 3 i1 0 (gI g 0 5 ((rI g 1 2) - 1))
  else none
def b_L_read_1_2 (L : Nat → Int → Int → G2 → Option (Int × G2)) (i1 : Int) (i2 : Int) (g : G2) : Option (Int × G2) :=
  L 3 (-2) 0 (gI g 0 5 (rI g 1 2))
def b_L_read_1_3 (L : Nat → Int → Int → G2 → Option (Int × G2)) (i1 : Int) (i2 : Int) (g : G2) : Option (Int × G2) :=
  if ir i1 then
  if i1 = 0 then
    some ((rI g 16 8), g)
  else
    some (i1, g)
  else none
def l_L_read_1 : Nat → Nat → Int → Int → G2 → Option (Int × G2)
  | 0 => fun _ _ _ _ => none
  | n + 1 => fun t i1 i2 g => match t with
    | 0 => b_L_read_1_0 (l_L_read_1 n) i1 i2 g
    | 1 => b_L_read_1_1 (l_L_read_1 n) i1 i2 g
    | 2 => b_L_read_1_2 (l_L_read_1 n) i1 i2 g
    | _ => b_L_read_1_3 (l_L_read_1 n) i1 i2 g
set_option maxHeartbeats 4000000 in
set_option maxRecDepth 100000 in
theorem rl_L_read_1 (d : Nat) : ∀ (n : Nat) (i1 : Int) (i2 : Int) (g : G2) (r : Int) (g' : G2), (l_L_read_1 n 0 i1 i2 g = some (r, g') → Rt (d + 7) m_L_read 18 [some (vR 1), some (vI i1), some (vI i2)] [] g (some (vI r)) g') ∧ (l_L_read_1 n 1 i1 i2 g = some (r, g') → Rt (d + 7) m_L_read 81 [some (vR 1), some (vI i1), none] [] g (some (vI r)) g') ∧ (l_L_read_1 n 2 i1 i2 g = some (r, g') → Rt (d + 7) m_L_read 126 [some (vR 1), none, none] [] g (some (vI r)) g') ∧ (l_L_read_1 n 3 i1 i2 g = some (r, g') → Rt (d + 7) m_L_read 140 [some (vR 1), some (vI i1), none] [] g (some (vI r)) g') := by
  intro n
  induction n with
  | zero => intro i1 i2 g r g'; exact ⟨fun hf => (by cases hf), fun hf => (by cases hf), fun hf => (by cases hf), fun hf => (by cases hf)⟩
  | succ n ih =>
    intro i1 i2 g r g'
    refine ⟨?_, ?_, ?_, ?_⟩
    · intro hf
      replace hf : b_L_read_1_0 (l_L_read_1 n) i1 i2 g = some (r, g') := hf
      unfold b_L_read_1_0 at hf
      have h3 : ir i2 := by
        by_cases q : ir i2
        · exact q
        · rw [if_neg q] at hf; cases hf
      rw [if_pos h3] at hf
      by_cases h4 : i2 < 1600
      · rw [if_pos h4] at hf
        refine Rt.path ok_L_read 3 [0] rfl ⟨⟨⟨h3, (show ir 1600 by decide)⟩, h4⟩, trivial⟩ ?_
        have h5 : ir i1 := by
          by_cases q : ir i1
          · exact q
          · rw [if_neg q] at hf; cases hf
        rw [if_pos h5] at hf
        by_cases h6 : i1 = 0
        · rw [if_pos h6] at hf
          refine Rt.path ok_L_read 2 [0] rfl ⟨⟨h5, h6⟩, trivial⟩ ?_
          obtain ⟨r7, g7, e7, hf⟩ := bd_inv hf
          refine Rt.path ok_L_read 2 [] rfl trivial ?_
          refine Rt.callV ok_L_read rfl ml_L_64 [] cf_Text_advance rfl rfl (c_Text_advance_2 (d + 5) _ _ _ e7) (Nat.le_of_ble_eq_true rfl) ?_
          have h8 : ir r7 := by
            by_cases q : ir r7
            · exact q
            · rw [if_neg q] at hf; cases hf
          rw [if_pos h8] at hf
          by_cases h9 : r7 = 0
          · rw [if_pos h9] at hf
            refine Rt.path ok_L_read 1 [1] rfl ⟨⟨h8, h9⟩, trivial⟩ ?_
            exact Rt.weak ((ih _ _ _ _ _).2.1 hf) ⟨rfl, rfl, trivial⟩
          · rw [if_neg h9] at hf
            refine Rt.path ok_L_read 1 [0] rfl ⟨⟨h8, h9⟩, trivial⟩ ?_
            have h10 : ir (rI g7 1 6) := by
              by_cases q : ir (rI g7 1 6)
              · exact q
              · rw [if_neg q] at hf; cases hf
            rw [if_pos h10] at hf
            by_cases h11 : (rI g7 1 6) = 0
            · rw [if_pos h11] at hf
              refine Rt.path ok_L_read 4 [1] rfl ⟨⟨h10, h11⟩, trivial⟩ ?_
              obtain ⟨r12, g12, e12, hf⟩ := bd_inv hf
              refine Rt.path ok_L_read 4 [] rfl trivial ?_
              refine Rt.callV ok_L_read rfl ml_L_76 [vR 2] cf_Reader_takeName rfl rfl (c_Reader_takeName_26_2 d _ _ _ e12) (Nat.le_of_ble_eq_true rfl) ?_
              refine Rt.path ok_L_read 3 [] rfl trivial ?_
              exact Rt.weak ((ih _ _ _ _ _).1 hf) ⟨rfl, rfl, rfl, trivial⟩
            · rw [if_neg h11] at hf
              refine Rt.path ok_L_read 4 [0] rfl ⟨⟨h10, h11⟩, trivial⟩ ?_
              obtain ⟨r13, g13, e13, hf⟩ := bd_inv hf
              refine Rt.path ok_L_read 4 [] rfl trivial ?_
              refine Rt.callV ok_L_read rfl ml_L_72 [vR 2] cf_Reader_takeKeyword rfl rfl (c_Reader_takeKeyword_26_2 (d + 1) _ _ _ e13) (Nat.le_of_ble_eq_true rfl) ?_
              refine Rt.path ok_L_read 4 [] rfl trivial ?_
              exact Rt.weak ((ih _ _ _ _ _).1 hf) ⟨rfl, rfl, rfl, trivial⟩
        · rw [if_neg h6] at hf
          refine Rt.path ok_L_read 2 [1] rfl ⟨⟨h5, h6⟩, trivial⟩ ?_
          exact Rt.weak ((ih _ _ _ _ _).2.1 hf) ⟨rfl, rfl, trivial⟩
      · rw [if_neg h4] at hf
        refine Rt.path ok_L_read 3 [1] rfl ⟨⟨⟨h3, (show ir 1600 by decide)⟩, (Int.not_lt.mp h4)⟩, trivial⟩ ?_
        exact Rt.weak ((ih _ _ _ _ _).2.1 hf) ⟨rfl, rfl, trivial⟩
    · intro hf
      replace hf : b_L_read_1_1 (l_L_read_1 n) i1 i2 g = some (r, g') := hf
      unfold b_L_read_1_1 at hf
      have h14 : ir i1 := by
        by_cases q : ir i1
        · exact q
        · rw [if_neg q] at hf; cases hf
      rw [if_pos h14] at hf
      by_cases h15 : i1 = 0
      · rw [if_pos h15] at hf
        refine Rt.path ok_L_read 3 [0] rfl ⟨⟨h14, h15⟩, trivial⟩ ?_
        by_cases h16 : i1 = 0
        · rw [if_pos h16] at hf
          refine Rt.path ok_L_read 5 [0] rfl ⟨⟨h14, h16⟩, trivial⟩ ?_
          have h17 : ir (rI g 1 7) := by
            by_cases q : ir (rI g 1 7)
            · exact q
            · rw [if_neg q] at hf; cases hf
          rw [if_pos h17] at hf
          by_cases h18 : (rI g 1 7) = 0
          · rw [if_pos h18] at hf
            refine Rt.path ok_L_read 4 [0] rfl ⟨⟨h17, h18⟩, trivial⟩ ?_
            obtain ⟨r19, g19, e19, hf⟩ := bd_inv hf
            refine Rt.path ok_L_read 2 [] rfl trivial ?_
            refine Rt.callV ok_L_read rfl ml_L_85 [] cf_Reader_isInside rfl rfl (c_Reader_isInside_26 (d + 6) _ _ _ e19) (Nat.le_of_ble_eq_true rfl) ?_
            have h20 : ir r19 := by
              by_cases q : ir r19
              · exact q
              · rw [if_neg q] at hf; cases hf
            rw [if_pos h20] at hf
            by_cases h21 : r19 = 0
            · rw [if_pos h21] at hf
              refine Rt.path ok_L_read 1 [1] rfl ⟨⟨h20, h21⟩, trivial⟩ ?_
              exact Rt.weak ((ih _ _ _ _ _).2.2.2 hf) ⟨rfl, rfl, trivial⟩
            · rw [if_neg h21] at hf
              refine Rt.path ok_L_read 1 [0] rfl ⟨⟨h20, h21⟩, trivial⟩ ?_
              exact Rt.weak ((ih _ _ _ _ _).2.2.1 hf) ⟨rfl, trivial⟩
          · rw [if_neg h18] at hf
            refine Rt.path ok_L_read 4 [1] rfl ⟨⟨h17, h18⟩, trivial⟩ ?_
            exact Rt.weak ((ih _ _ _ _ _).2.2.1 hf) ⟨rfl, trivial⟩
        · rw [if_neg h16] at hf
          refine Rt.path ok_L_read 5 [1] rfl ⟨⟨h14, h16⟩, trivial⟩ ?_
          exact Rt.weak ((ih _ _ _ _ _).2.2.2 hf) ⟨rfl, rfl, trivial⟩
      · rw [if_neg h15] at hf
        refine Rt.path ok_L_read 3 [1] rfl ⟨⟨h14, h15⟩, trivial⟩ ?_
        by_cases h22 : i1 = 0
        · rw [if_pos h22] at hf
          refine Rt.path ok_L_read 8 [0] rfl ⟨⟨h14, h22⟩, trivial⟩ ?_
          have h23 : ir (rI g 1 7) := by
            by_cases q : ir (rI g 1 7)
            · exact q
            · rw [if_neg q] at hf; cases hf
          rw [if_pos h23] at hf
          by_cases h24 : (rI g 1 7) = 0
          · rw [if_pos h24] at hf
            refine Rt.path ok_L_read 4 [0] rfl ⟨⟨h23, h24⟩, trivial⟩ ?_
            obtain ⟨r25, g25, e25, hf⟩ := bd_inv hf
            refine Rt.path ok_L_read 2 [] rfl trivial ?_
            refine Rt.callV ok_L_read rfl ml_L_85 [] cf_Reader_isInside rfl rfl (c_Reader_isInside_26 (d + 6) _ _ _ e25) (Nat.le_of_ble_eq_true rfl) ?_
            have h26 : ir r25 := by
              by_cases q : ir r25
              · exact q
              · rw [if_neg q] at hf; cases hf
            rw [if_pos h26] at hf
            by_cases h27 : r25 = 0
            · rw [if_pos h27] at hf
              refine Rt.path ok_L_read 1 [1] rfl ⟨⟨h26, h27⟩, trivial⟩ ?_
              exact Rt.weak ((ih _ _ _ _ _).2.2.2 hf) ⟨rfl, rfl, trivial⟩
            · rw [if_neg h27] at hf
              refine Rt.path ok_L_read 1 [0] rfl ⟨⟨h26, h27⟩, trivial⟩ ?_
              exact Rt.weak ((ih _ _ _ _ _).2.2.1 hf) ⟨rfl, trivial⟩
          · rw [if_neg h24] at hf
            refine Rt.path ok_L_read 4 [1] rfl ⟨⟨h23, h24⟩, trivial⟩ ?_
            exact Rt.weak ((ih _ _ _ _ _).2.2.1 hf) ⟨rfl, trivial⟩
        · rw [if_neg h22] at hf
          refine Rt.path ok_L_read 8 [1] rfl ⟨⟨h14, h22⟩, trivial⟩ ?_
          exact Rt.weak ((ih _ _ _ _ _).2.2.2 hf) ⟨rfl, rfl, trivial⟩
    · intro hf
      replace hf : b_L_read_1_2 (l_L_read_1 n) i1 i2 g = some (r, g') := hf
      unfold b_L_read_1_2 at hf
      refine Rt.path ok_L_read 7 [] rfl trivial ?_
      exact Rt.weak ((ih _ _ _ _ _).2.2.2 hf) ⟨rfl, rfl, trivial⟩
    · intro hf
      replace hf : b_L_read_1_3 (l_L_read_1 n) i1 i2 g = some (r, g') := hf
      unfold b_L_read_1_3 at hf
      have h28 : ir i1 := by
        by_cases q : ir i1
        · exact q
        · rw [if_neg q] at hf; cases hf
      rw [if_pos h28] at hf
      by_cases h29 : i1 = 0
      · rw [if_pos h29] at hf
        refine Rt.path ok_L_read 2 [0] rfl ⟨⟨h28, h29⟩, trivial⟩ ?_
        cases hf
        refine Rt.path ok_L_read 4 [] rfl trivial ?_
        exact Rt.retI ok_L_read rfl rfl
      · rw [if_neg h29] at hf
        refine Rt.path ok_L_read 2 [1] rfl ⟨⟨h28, h29⟩, trivial⟩ ?_
        cases hf
        refine Rt.path ok_L_read 1 [] rfl trivial ?_
        exact Rt.retI ok_L_read rfl rfl
def f_L_read_1  (g : G2) : Option (Int × G2) :=
  (f_Text_rewind_2 g).bind fun g1 =>
  (f_Reader_begin_26 g1).bind fun g2 =>
  l_L_read_1 20000 0 0 0 g2
set_option maxHeartbeats 4000000 in
set_option maxRecDepth 100000 in
theorem c_L_read_1 (d : Nat)  (g : G2) (r : Int) (g' : G2) (hf : f_L_read_1 g = some (r, g')) : C2 (d + 7) m_L_read [vR 1] g (some (vI r)) g' := by
  unfold f_L_read_1 at hf
  refine C2.of rfl rfl rfl (Nat.le_of_ble_eq_true rfl) ?_
  obtain ⟨g1, e1, hf⟩ := Option.bind_eq_some_iff.mp hf
  refine Rt.path ok_L_read 2 [] rfl trivial ?_
  refine Rt.callV ok_L_read rfl ml_L_58 [] cf_Text_rewind rfl rfl (c_Text_rewind_2 (d + 6) _ _ e1) (Nat.le_of_ble_eq_true rfl) ?_
  obtain ⟨g2, e2, hf⟩ := Option.bind_eq_some_iff.mp hf
  refine Rt.path ok_L_read 2 [] rfl trivial ?_
  refine Rt.callV ok_L_read rfl ml_L_61 [] cf_Reader_begin rfl rfl (c_Reader_begin_26 (d + 2) _ _ e2) (Nat.le_of_ble_eq_true rfl) ?_
  refine Rt.path ok_L_read 4 [] rfl trivial ?_
  exact Rt.weak ((rl_L_read_1 d _ _ _ _ _ _).1 hf) ⟨rfl, rfl, rfl, trivial⟩
def f_L_place_1  (g : G2) : Option (Int × G2) :=
  some ((rI g 0 5), g)
set_option maxHeartbeats 4000000 in
set_option maxRecDepth 100000 in
theorem c_L_place_1 (d : Nat)  (g : G2) (r : Int) (g' : G2) (hf : f_L_place_1 g = some (r, g')) : C2 d m_L_place [vR 1] g (some (vI r)) g' := by
  unfold f_L_place_1 at hf
  refine C2.of rfl rfl rfl (Nat.le_of_ble_eq_true rfl) ?_
  cases hf
  refine Rt.path ok_L_place 2 [] rfl trivial ?_
  exact Rt.retI ok_L_place rfl rfl
def b_Statements_countKind_8_0 (L : Nat → Int → Int → Int → G2 → Option (Int × G2)) (i1 : Int) (i2 : Int) (i3 : Int) (g : G2) : Option (Int × G2) :=
  if ir i3 then
  if ir (rI g 10 4) then
  if i3 < (rI g 10 4) then
    if 0 ≤ i3 ∧ i3 < 40 then
    if ir (rA g 9 i3) then
    if ir i1 then
    if (rA g 9 i3) = i1 then
      L 0 i1 (i2 + 1) (i3 + 1) g
    else
      L 0 i1 i2 (i3 + 1) g
    else none
    else none
    else none
  else
    some (i2, g)
  else none
  else none
def l_Statements_countKind_8 : Nat → Nat → Int → Int → Int → G2 → Option (Int × G2)
  | 0 => fun _ _ _ _ _ => none
  | n + 1 => fun t i1 i2 i3 g => match t with
    | _ => b_Statements_countKind_8_0 (l_Statements_countKind_8 n) i1 i2 i3 g
set_option maxHeartbeats 4000000 in
set_option maxRecDepth 100000 in
theorem rl_Statements_countKind_8 (d : Nat) : ∀ (n : Nat) (i1 : Int) (i2 : Int) (i3 : Int) (g : G2) (r : Int) (g' : G2), (l_Statements_countKind_8 n 0 i1 i2 i3 g = some (r, g') → Rt d m_Statements_countKind 4 [some (vR 8), some (vI i1), some (vI i2), some (vI i3)] [] g (some (vI r)) g') := by
  intro n
  induction n with
  | zero => intro i1 i2 i3 g r g'; exact fun hf => by cases hf
  | succ n ih =>
    intro i1 i2 i3 g r g'
    intro hf
    replace hf : b_Statements_countKind_8_0 (l_Statements_countKind_8 n) i1 i2 i3 g = some (r, g') := hf
    unfold b_Statements_countKind_8_0 at hf
    have h1 : ir i3 := by
      by_cases q : ir i3
      · exact q
      · rw [if_neg q] at hf; cases hf
    rw [if_pos h1] at hf
    have h2 : ir (rI g 10 4) := by
      by_cases q : ir (rI g 10 4)
      · exact q
      · rw [if_neg q] at hf; cases hf
    rw [if_pos h2] at hf
    by_cases h3 : i3 < (rI g 10 4)
    · rw [if_pos h3] at hf
      refine Rt.path ok_Statements_countKind 5 [0] rfl ⟨⟨⟨h1, h2⟩, h3⟩, trivial⟩ ?_
      have h4 : 0 ≤ i3 ∧ i3 < 40 := by
        by_cases q : 0 ≤ i3 ∧ i3 < 40
        · exact q
        · rw [if_neg q] at hf; cases hf
      rw [if_pos h4] at hf
      have h5 : ir (rA g 9 i3) := by
        by_cases q : ir (rA g 9 i3)
        · exact q
        · rw [if_neg q] at hf; cases hf
      rw [if_pos h5] at hf
      have h6 : ir i1 := by
        by_cases q : ir i1
        · exact q
        · rw [if_neg q] at hf; cases hf
      rw [if_pos h6] at hf
      by_cases h7 : (rA g 9 i3) = i1
      · rw [if_pos h7] at hf
        refine Rt.path ok_Statements_countKind 6 [0] rfl ⟨(ix_40 h4), ⟨⟨h5, h6⟩, h7⟩, trivial⟩ ?_
        refine Rt.path ok_Statements_countKind 3 [] rfl trivial ?_
        exact Rt.weak ((ih _ _ _ _ _ _) hf) ⟨rfl, rfl, rfl, rfl, trivial⟩
      · rw [if_neg h7] at hf
        refine Rt.path ok_Statements_countKind 6 [1] rfl ⟨(ix_40 h4), ⟨⟨h5, h6⟩, h7⟩, trivial⟩ ?_
        refine Rt.path ok_Statements_countKind 2 [] rfl trivial ?_
        exact Rt.weak ((ih _ _ _ _ _ _) hf) ⟨rfl, rfl, rfl, rfl, trivial⟩
    · rw [if_neg h3] at hf
      refine Rt.path ok_Statements_countKind 5 [1] rfl ⟨⟨⟨h1, h2⟩, (Int.not_lt.mp h3)⟩, trivial⟩ ?_
      cases hf
      refine Rt.path ok_Statements_countKind 1 [] rfl trivial ?_
      exact Rt.retI ok_Statements_countKind rfl rfl
def f_Statements_countKind_8 (a1 : Int) (g : G2) : Option (Int × G2) :=
  l_Statements_countKind_8 20000 0 a1 0 0 g
set_option maxHeartbeats 4000000 in
set_option maxRecDepth 100000 in
theorem c_Statements_countKind_8 (d : Nat) (a1 : Int) (g : G2) (r : Int) (g' : G2) (hf : f_Statements_countKind_8 a1 g = some (r, g')) : C2 d m_Statements_countKind [vR 8, vI a1] g (some (vI r)) g' := by
  unfold f_Statements_countKind_8 at hf
  refine C2.of rfl rfl rfl (Nat.le_of_ble_eq_true rfl) ?_
  refine Rt.path ok_Statements_countKind 4 [] rfl trivial ?_
  exact Rt.weak ((rl_Statements_countKind_8 d _ _ _ _ _ _ _) hf) ⟨rfl, rfl, rfl, rfl, trivial⟩
def b_Assertions_countIncomplete_17_0 (L : Nat → Int → Int → G2 → Option (Int × G2)) (i1 : Int) (i2 : Int) (g : G2) : Option (Int × G2) :=
  if ir i2 then
  if ir (rI g 16 8) then
  if i2 < (rI g 16 8) then
    if 0 ≤ i2 ∧ i2 < 40 then
    if ir (rA g 23 i2) then
    if (rA g 23 i2) = 0 then
      L 0 i1 (i2 + 1) g
    else
      L 0 (i1 + 1) (i2 + 1) g
    else none
    else none
  else
    some (i1, g)
  else none
  else none
def l_Assertions_countIncomplete_17 : Nat → Nat → Int → Int → G2 → Option (Int × G2)
  | 0 => fun _ _ _ _ => none
  | n + 1 => fun t i1 i2 g => match t with
    | _ => b_Assertions_countIncomplete_17_0 (l_Assertions_countIncomplete_17 n) i1 i2 g
set_option maxHeartbeats 4000000 in
set_option maxRecDepth 100000 in
theorem rl_Assertions_countIncomplete_17 (d : Nat) : ∀ (n : Nat) (i1 : Int) (i2 : Int) (g : G2) (r : Int) (g' : G2), (l_Assertions_countIncomplete_17 n 0 i1 i2 g = some (r, g') → Rt d m_Assertions_countIncomplete 4 [some (vR 17), some (vI i1), some (vI i2)] [] g (some (vI r)) g') := by
  intro n
  induction n with
  | zero => intro i1 i2 g r g'; exact fun hf => by cases hf
  | succ n ih =>
    intro i1 i2 g r g'
    intro hf
    replace hf : b_Assertions_countIncomplete_17_0 (l_Assertions_countIncomplete_17 n) i1 i2 g = some (r, g') := hf
    unfold b_Assertions_countIncomplete_17_0 at hf
    have h1 : ir i2 := by
      by_cases q : ir i2
      · exact q
      · rw [if_neg q] at hf; cases hf
    rw [if_pos h1] at hf
    have h2 : ir (rI g 16 8) := by
      by_cases q : ir (rI g 16 8)
      · exact q
      · rw [if_neg q] at hf; cases hf
    rw [if_pos h2] at hf
    by_cases h3 : i2 < (rI g 16 8)
    · rw [if_pos h3] at hf
      refine Rt.path ok_Assertions_countIncomplete 4 [0] rfl ⟨⟨⟨h1, h2⟩, h3⟩, trivial⟩ ?_
      have h4 : 0 ≤ i2 ∧ i2 < 40 := by
        by_cases q : 0 ≤ i2 ∧ i2 < 40
        · exact q
        · rw [if_neg q] at hf; cases hf
      rw [if_pos h4] at hf
      have h5 : ir (rA g 23 i2) := by
        by_cases q : ir (rA g 23 i2)
        · exact q
        · rw [if_neg q] at hf; cases hf
      rw [if_pos h5] at hf
      by_cases h6 : (rA g 23 i2) = 0
      · rw [if_pos h6] at hf
        refine Rt.path ok_Assertions_countIncomplete 5 [1] rfl ⟨(ix_40 h4), ⟨h5, h6⟩, trivial⟩ ?_
        refine Rt.path ok_Assertions_countIncomplete 2 [] rfl trivial ?_
        exact Rt.weak ((ih _ _ _ _ _) hf) ⟨rfl, rfl, rfl, trivial⟩
      · rw [if_neg h6] at hf
        refine Rt.path ok_Assertions_countIncomplete 5 [0] rfl ⟨(ix_40 h4), ⟨h5, h6⟩, trivial⟩ ?_
        refine Rt.path ok_Assertions_countIncomplete 3 [] rfl trivial ?_
        exact Rt.weak ((ih _ _ _ _ _) hf) ⟨rfl, rfl, rfl, trivial⟩
    · rw [if_neg h3] at hf
      refine Rt.path ok_Assertions_countIncomplete 4 [1] rfl ⟨⟨⟨h1, h2⟩, (Int.not_lt.mp h3)⟩, trivial⟩ ?_
      cases hf
      refine Rt.path ok_Assertions_countIncomplete 1 [] rfl trivial ?_
      exact Rt.retI ok_Assertions_countIncomplete rfl rfl
def f_Assertions_countIncomplete_17  (g : G2) : Option (Int × G2) :=
  l_Assertions_countIncomplete_17 20000 0 0 0 g
set_option maxHeartbeats 4000000 in
set_option maxRecDepth 100000 in
theorem c_Assertions_countIncomplete_17 (d : Nat)  (g : G2) (r : Int) (g' : G2) (hf : f_Assertions_countIncomplete_17 g = some (r, g')) : C2 d m_Assertions_countIncomplete [vR 17] g (some (vI r)) g' := by
  unfold f_Assertions_countIncomplete_17 at hf
  refine C2.of rfl rfl rfl (Nat.le_of_ble_eq_true rfl) ?_
  refine Rt.path ok_Assertions_countIncomplete 4 [] rfl trivial ?_
  exact Rt.weak ((rl_Assertions_countIncomplete_17 d _ _ _ _ _ _) hf) ⟨rfl, rfl, rfl, trivial⟩
def f_L_count_1 (a1 : Int) (g : G2) : Option (Int × G2) :=
  if ir a1 then
  if a1 = 0 then
    some ((rI g 3 4), g)
  else
  if a1 = 1 then
    bd (f_J_bitCount (rJ g 3 5) g) fun r2 g2 =>
    some (r2, g2)
  else
  if a1 = 2 then
    bd (f_Statements_countKind_8 0 g) fun r3 g3 =>
    some (r3, g3)
  else
  if a1 = 3 then
    bd (f_Statements_countKind_8 1 g) fun r4 g4 =>
    some (r4, g4)
  else
  if a1 = 4 then
    bd (f_Statements_countKind_8 2 g) fun r5 g5 =>
    some (r5, g5)
  else
  if a1 = 5 then
    bd (f_Statements_countKind_8 3 g) fun r6 g6 =>
    some (r6, g6)
  else
  if a1 = 6 then
    bd (f_Assertions_countIncomplete_17 g) fun r7 g7 =>
    some (r7, g7)
  else
    some ((-1), g)
  else none
set_option maxHeartbeats 4000000 in
set_option maxRecDepth 100000 in
theorem c_L_count_1 (d : Nat) (a1 : Int) (g : G2) (r : Int) (g' : G2) (hf : f_L_count_1 a1 g = some (r, g')) : C2 (d + 1) m_L_count [vR 1, vI a1] g (some (vI r)) g' := by
  unfold f_L_count_1 at hf
  refine C2.of rfl rfl rfl (Nat.le_of_ble_eq_true rfl) ?_
  have h1 : ir a1 := by
    by_cases q : ir a1
    · exact q
    · rw [if_neg q] at hf; cases hf
  rw [if_pos h1] at hf
  by_cases h8_0 : a1 = 0
  · rw [if_pos h8_0] at hf
    refine Rt.path ok_L_count 2 [0] rfl ⟨⟨h1, (show a1 = 0 + ((0 : Nat) : Int) by omega), (show a1 ≤ 6 by omega), by decide⟩, trivial⟩ ?_
    cases hf
    refine Rt.path ok_L_count 3 [] rfl trivial ?_
    exact Rt.retI ok_L_count rfl rfl
  · rw [if_neg h8_0] at hf
    by_cases h8_1 : a1 = 1
    · rw [if_pos h8_1] at hf
      refine Rt.path ok_L_count 2 [1] rfl ⟨⟨h1, (show a1 = 0 + ((1 : Nat) : Int) by omega), (show a1 ≤ 6 by omega), by decide⟩, trivial⟩ ?_
      obtain ⟨r2, g2, e2, hf⟩ := bd_inv hf
      refine Rt.path ok_L_count 3 [] rfl trivial ?_
      refine Rt.callS ok_L_count rfl ml_L_98 [vL _] cf_J_bitCount (c_J_bitCount d _ _ _ _ e2) (Nat.le_of_ble_eq_true rfl) ?_
      cases hf
      exact Rt.retI ok_L_count rfl rfl
    · rw [if_neg h8_1] at hf
      by_cases h8_2 : a1 = 2
      · rw [if_pos h8_2] at hf
        refine Rt.path ok_L_count 2 [2] rfl ⟨⟨h1, (show a1 = 0 + ((2 : Nat) : Int) by omega), (show a1 ≤ 6 by omega), by decide⟩, trivial⟩ ?_
        obtain ⟨r3, g3, e3, hf⟩ := bd_inv hf
        refine Rt.path ok_L_count 3 [] rfl trivial ?_
        refine Rt.callV ok_L_count rfl ml_L_104 [vI _] cf_Statements_countKind rfl rfl (c_Statements_countKind_8 d _ _ _ _ e3) (Nat.le_of_ble_eq_true rfl) ?_
        cases hf
        exact Rt.retI ok_L_count rfl rfl
      · rw [if_neg h8_2] at hf
        by_cases h8_3 : a1 = 3
        · rw [if_pos h8_3] at hf
          refine Rt.path ok_L_count 2 [3] rfl ⟨⟨h1, (show a1 = 0 + ((3 : Nat) : Int) by omega), (show a1 ≤ 6 by omega), by decide⟩, trivial⟩ ?_
          obtain ⟨r4, g4, e4, hf⟩ := bd_inv hf
          refine Rt.path ok_L_count 3 [] rfl trivial ?_
          refine Rt.callV ok_L_count rfl ml_L_104 [vI _] cf_Statements_countKind rfl rfl (c_Statements_countKind_8 d _ _ _ _ e4) (Nat.le_of_ble_eq_true rfl) ?_
          cases hf
          exact Rt.retI ok_L_count rfl rfl
        · rw [if_neg h8_3] at hf
          by_cases h8_4 : a1 = 4
          · rw [if_pos h8_4] at hf
            refine Rt.path ok_L_count 2 [4] rfl ⟨⟨h1, (show a1 = 0 + ((4 : Nat) : Int) by omega), (show a1 ≤ 6 by omega), by decide⟩, trivial⟩ ?_
            obtain ⟨r5, g5, e5, hf⟩ := bd_inv hf
            refine Rt.path ok_L_count 3 [] rfl trivial ?_
            refine Rt.callV ok_L_count rfl ml_L_104 [vI _] cf_Statements_countKind rfl rfl (c_Statements_countKind_8 d _ _ _ _ e5) (Nat.le_of_ble_eq_true rfl) ?_
            cases hf
            exact Rt.retI ok_L_count rfl rfl
          · rw [if_neg h8_4] at hf
            by_cases h8_5 : a1 = 5
            · rw [if_pos h8_5] at hf
              refine Rt.path ok_L_count 2 [5] rfl ⟨⟨h1, (show a1 = 0 + ((5 : Nat) : Int) by omega), (show a1 ≤ 6 by omega), by decide⟩, trivial⟩ ?_
              obtain ⟨r6, g6, e6, hf⟩ := bd_inv hf
              refine Rt.path ok_L_count 3 [] rfl trivial ?_
              refine Rt.callV ok_L_count rfl ml_L_104 [vI _] cf_Statements_countKind rfl rfl (c_Statements_countKind_8 d _ _ _ _ e6) (Nat.le_of_ble_eq_true rfl) ?_
              cases hf
              exact Rt.retI ok_L_count rfl rfl
            · rw [if_neg h8_5] at hf
              by_cases h8_6 : a1 = 6
              · rw [if_pos h8_6] at hf
                refine Rt.path ok_L_count 2 [6] rfl ⟨⟨h1, (show a1 = 0 + ((6 : Nat) : Int) by omega), (show a1 ≤ 6 by omega), by decide⟩, trivial⟩ ?_
                obtain ⟨r7, g7, e7, hf⟩ := bd_inv hf
                refine Rt.path ok_L_count 2 [] rfl trivial ?_
                refine Rt.callV ok_L_count rfl ml_L_108 [] cf_Assertions_countIncomplete rfl rfl (c_Assertions_countIncomplete_17 d _ _ _ e7) (Nat.le_of_ble_eq_true rfl) ?_
                cases hf
                exact Rt.retI ok_L_count rfl rfl
              · rw [if_neg h8_6] at hf
                refine Rt.path ok_L_count 2 [7] rfl ⟨⟨h1, (show a1 < 0 ∨ 6 < a1 by omega), by decide⟩, trivial⟩ ?_
                cases hf
                refine Rt.path ok_L_count 1 [] rfl trivial ?_
                exact Rt.retI ok_L_count rfl rfl
def f_Assertions_has_17 (a1 : Int) (g : G2) : Option (Int × G2) :=
  if ir a1 then
  if a1 < 0 then
    some (0, g)
  else
    if ir (rI g 16 8) then
    if a1 < (rI g 16 8) then
      some (1, g)
    else
      some (0, g)
    else none
  else none
set_option maxHeartbeats 4000000 in
set_option maxRecDepth 100000 in
theorem c_Assertions_has_17 (d : Nat) (a1 : Int) (g : G2) (r : Int) (g' : G2) (hf : f_Assertions_has_17 a1 g = some (r, g')) : C2 d m_Assertions_has [vR 17, vI a1] g (some (vI r)) g' := by
  unfold f_Assertions_has_17 at hf
  refine C2.of rfl rfl rfl (Nat.le_of_ble_eq_true rfl) ?_
  have h1 : ir a1 := by
    by_cases q : ir a1
    · exact q
    · rw [if_neg q] at hf; cases hf
  rw [if_pos h1] at hf
  by_cases h2 : a1 < 0
  · rw [if_pos h2] at hf
    refine Rt.path ok_Assertions_has 2 [1] rfl ⟨⟨h1, h2⟩, trivial⟩ ?_
    cases hf
    refine Rt.path ok_Assertions_has 1 [] rfl trivial ?_
    exact Rt.retZ ok_Assertions_has (show (0 : Int) = 0 ∨ (0 : Int) = 1 by decide) rfl rfl
  · rw [if_neg h2] at hf
    refine Rt.path ok_Assertions_has 2 [0] rfl ⟨⟨h1, (Int.not_lt.mp h2)⟩, trivial⟩ ?_
    have h3 : ir (rI g 16 8) := by
      by_cases q : ir (rI g 16 8)
      · exact q
      · rw [if_neg q] at hf; cases hf
    rw [if_pos h3] at hf
    by_cases h4 : a1 < (rI g 16 8)
    · rw [if_pos h4] at hf
      refine Rt.path ok_Assertions_has 4 [0] rfl ⟨⟨⟨h1, h3⟩, h4⟩, trivial⟩ ?_
      cases hf
      refine Rt.path ok_Assertions_has 2 [] rfl trivial ?_
      exact Rt.retZ ok_Assertions_has (show (1 : Int) = 0 ∨ (1 : Int) = 1 by decide) rfl rfl
    · rw [if_neg h4] at hf
      refine Rt.path ok_Assertions_has 4 [1] rfl ⟨⟨⟨h1, h3⟩, (Int.not_lt.mp h4)⟩, trivial⟩ ?_
      cases hf
      refine Rt.path ok_Assertions_has 1 [] rfl trivial ?_
      exact Rt.retZ ok_Assertions_has (show (0 : Int) = 0 ∨ (0 : Int) = 1 by decide) rfl rfl
def f_L_label_1 (a1 : Int) (g : G2) : Option (Int64 × G2) :=
  bd (f_Assertions_has_17 a1 g) fun r1 g1 =>
  if ir r1 then
  if r1 = 0 then
    some ((Int64.ofNat 18446744073709551615), g1)
  else
    if 0 ≤ a1 ∧ a1 < 40 then
    if 0 ≤ (rA g1 17 a1) ∧ (rA g1 17 a1) < 40 then
    some ((rB g1 8 (rA g1 17 a1)), g1)
    else none
    else none
  else none
set_option maxHeartbeats 4000000 in
set_option maxRecDepth 100000 in
theorem c_L_label_1 (d : Nat) (a1 : Int) (g : G2) (r : Int64) (g' : G2) (hf : f_L_label_1 a1 g = some (r, g')) : C2 (d + 1) m_L_label [vR 1, vI a1] g (some (vL r)) g' := by
  unfold f_L_label_1 at hf
  refine C2.of rfl rfl rfl (Nat.le_of_ble_eq_true rfl) ?_
  obtain ⟨r1, g1, e1, hf⟩ := bd_inv hf
  refine Rt.path ok_L_label 3 [] rfl trivial ?_
  refine Rt.callV ok_L_label rfl ml_L_111 [vI _] cf_Assertions_has rfl rfl (c_Assertions_has_17 d _ _ _ _ e1) (Nat.le_of_ble_eq_true rfl) ?_
  have h2 : ir r1 := by
    by_cases q : ir r1
    · exact q
    · rw [if_neg q] at hf; cases hf
  rw [if_pos h2] at hf
  by_cases h3 : r1 = 0
  · rw [if_pos h3] at hf
    refine Rt.path ok_L_label 1 [1] rfl ⟨⟨h2, h3⟩, trivial⟩ ?_
    cases hf
    refine Rt.path ok_L_label 1 [] rfl trivial ?_
    exact Rt.retL ok_L_label rfl rfl
  · rw [if_neg h3] at hf
    refine Rt.path ok_L_label 1 [0] rfl ⟨⟨h2, h3⟩, trivial⟩ ?_
    have h4 : 0 ≤ a1 ∧ a1 < 40 := by
      by_cases q : 0 ≤ a1 ∧ a1 < 40
      · exact q
      · rw [if_neg q] at hf; cases hf
    rw [if_pos h4] at hf
    have h5 : 0 ≤ (rA g1 17 a1) ∧ (rA g1 17 a1) < 40 := by
      by_cases q : 0 ≤ (rA g1 17 a1) ∧ (rA g1 17 a1) < 40
      · exact q
      · rw [if_neg q] at hf; cases hf
    rw [if_pos h5] at hf
    cases hf
    refine Rt.path ok_L_label 10 [] rfl ⟨(ix_40 h4), (ix_40 h5), trivial⟩ ?_
    exact Rt.retL ok_L_label rfl rfl
def f_L_symbol_1 (a1 : Int) (a2 : Int) (g : G2) : Option (Int64 × G2) :=
  bd (f_Assertions_has_17 a1 g) fun r1 g1 =>
  if ir r1 then
  if r1 = 0 then
    some ((Int64.ofNat 18446744073709551615), g1)
  else
    if 0 ≤ a1 ∧ a1 < 40 then
    if ir a2 then
    if a2 < 0 then
      some ((Int64.ofNat 18446744073709551615), g1)
    else
      if 0 ≤ (rA g1 17 a1) ∧ (rA g1 17 a1) < 40 then
      if ir (rA g1 12 (rA g1 17 a1)) then
      if a2 < (rA g1 12 (rA g1 17 a1)) then
        bd (f_Expressions_symbolAt_11 (rA g1 17 a1) a2 g1) fun r10 g10 =>
        if 0 ≤ r10 ∧ r10 < 60 then
        some ((rB g10 4 r10), g10)
        else none
      else
        some ((Int64.ofNat 18446744073709551615), g1)
      else none
      else none
    else none
    else none
  else none
set_option maxHeartbeats 4000000 in
set_option maxRecDepth 100000 in
theorem c_L_symbol_1 (d : Nat) (a1 : Int) (a2 : Int) (g : G2) (r : Int64) (g' : G2) (hf : f_L_symbol_1 a1 a2 g = some (r, g')) : C2 (d + 1) m_L_symbol [vR 1, vI a1, vI a2] g (some (vL r)) g' := by
  unfold f_L_symbol_1 at hf
  refine C2.of rfl rfl rfl (Nat.le_of_ble_eq_true rfl) ?_
  obtain ⟨r1, g1, e1, hf⟩ := bd_inv hf
  refine Rt.path ok_L_symbol 3 [] rfl trivial ?_
  refine Rt.callV ok_L_symbol rfl ml_L_111 [vI _] cf_Assertions_has rfl rfl (c_Assertions_has_17 d _ _ _ _ e1) (Nat.le_of_ble_eq_true rfl) ?_
  have h2 : ir r1 := by
    by_cases q : ir r1
    · exact q
    · rw [if_neg q] at hf; cases hf
  rw [if_pos h2] at hf
  by_cases h3 : r1 = 0
  · rw [if_pos h3] at hf
    refine Rt.path ok_L_symbol 1 [0] rfl ⟨⟨h2, h3⟩, trivial⟩ ?_
    cases hf
    refine Rt.path ok_L_symbol 1 [] rfl trivial ?_
    exact Rt.retL ok_L_symbol rfl rfl
  · rw [if_neg h3] at hf
    refine Rt.path ok_L_symbol 1 [1] rfl ⟨⟨h2, h3⟩, trivial⟩ ?_
    have h4 : 0 ≤ a1 ∧ a1 < 40 := by
      by_cases q : 0 ≤ a1 ∧ a1 < 40
      · exact q
      · rw [if_neg q] at hf; cases hf
    rw [if_pos h4] at hf
    have h5 : ir a2 := by
      by_cases q : ir a2
      · exact q
      · rw [if_neg q] at hf; cases hf
    rw [if_pos h5] at hf
    by_cases h6 : a2 < 0
    · rw [if_pos h6] at hf
      refine Rt.path ok_L_symbol 8 [1] rfl ⟨(ix_40 h4), ⟨h5, h6⟩, trivial⟩ ?_
      cases hf
      refine Rt.path ok_L_symbol 1 [] rfl trivial ?_
      exact Rt.retL ok_L_symbol rfl rfl
    · rw [if_neg h6] at hf
      refine Rt.path ok_L_symbol 8 [0] rfl ⟨(ix_40 h4), ⟨h5, (Int.not_lt.mp h6)⟩, trivial⟩ ?_
      have h7 : 0 ≤ (rA g1 17 a1) ∧ (rA g1 17 a1) < 40 := by
        by_cases q : 0 ≤ (rA g1 17 a1) ∧ (rA g1 17 a1) < 40
        · exact q
        · rw [if_neg q] at hf; cases hf
      rw [if_pos h7] at hf
      have h8 : ir (rA g1 12 (rA g1 17 a1)) := by
        by_cases q : ir (rA g1 12 (rA g1 17 a1))
        · exact q
        · rw [if_neg q] at hf; cases hf
      rw [if_pos h8] at hf
      by_cases h9 : a2 < (rA g1 12 (rA g1 17 a1))
      · rw [if_pos h9] at hf
        refine Rt.path ok_L_symbol 8 [1] rfl ⟨(ix_40 h7), ⟨⟨h5, h8⟩, h9⟩, trivial⟩ ?_
        obtain ⟨r10, g10, e10, hf⟩ := bd_inv hf
        refine Rt.path ok_L_symbol 8 [] rfl trivial ?_
        refine Rt.callV ok_L_symbol rfl ml_L_136 [vI _, vI _] cf_Expressions_symbolAt rfl rfl (c_Expressions_symbolAt_11 d _ _ _ _ _ e10) (Nat.le_of_ble_eq_true rfl) ?_
        have h11 : 0 ≤ r10 ∧ r10 < 60 := by
          by_cases q : 0 ≤ r10 ∧ r10 < 60
          · exact q
          · rw [if_neg q] at hf; cases hf
        rw [if_pos h11] at hf
        cases hf
        refine Rt.path ok_L_symbol 1 [] rfl ⟨(ix_60 h11), trivial⟩ ?_
        exact Rt.retL ok_L_symbol rfl rfl
      · rw [if_neg h9] at hf
        refine Rt.path ok_L_symbol 8 [0] rfl ⟨(ix_40 h7), ⟨⟨h5, h8⟩, (Int.not_lt.mp h9)⟩, trivial⟩ ?_
        cases hf
        refine Rt.path ok_L_symbol 1 [] rfl trivial ?_
        exact Rt.retL ok_L_symbol rfl rfl
def b_Statements_findMandatory_8_0 (L : Nat → Int → Int → Int → Int → G2 → Option (Int × G2)) (i1 : Int) (i2 : Int) (i3 : Int) (i4 : Int) (g : G2) : Option (Int × G2) :=
  if ir i4 then
  if ir i1 then
  if i4 < i1 then
    bd (f_Statements_isMandatory_8 i1 i4 g) fun r4 g4 =>
    if ir r4 then
    if r4 = 0 then
      L 0 i1 i2 i3 (i4 + 1) g4
    else
      if ir i3 then
      if ir i2 then
      if i3 = i2 then
        some (i4, g4)
      else
        L 0 i1 i2 (i3 + 1) (i4 + 1) g4
      else none
      else none
    else none
  else
    some ((-1), g)
  else none
  else none
def l_Statements_findMandatory_8 : Nat → Nat → Int → Int → Int → Int → G2 → Option (Int × G2)
  | 0 => fun _ _ _ _ _ _ => none
  | n + 1 => fun t i1 i2 i3 i4 g => match t with
    | _ => b_Statements_findMandatory_8_0 (l_Statements_findMandatory_8 n) i1 i2 i3 i4 g
set_option maxHeartbeats 4000000 in
set_option maxRecDepth 100000 in
theorem rl_Statements_findMandatory_8 (d : Nat) : ∀ (n : Nat) (i1 : Int) (i2 : Int) (i3 : Int) (i4 : Int) (g : G2) (r : Int) (g' : G2), (l_Statements_findMandatory_8 n 0 i1 i2 i3 i4 g = some (r, g') → Rt (d + 1) m_Statements_findMandatory 5 [some (vR 8), some (vI i1), some (vI i2), some (vI i3), some (vI i4)] [] g (some (vI r)) g') := by
  intro n
  induction n with
  | zero => intro i1 i2 i3 i4 g r g'; exact fun hf => by cases hf
  | succ n ih =>
    intro i1 i2 i3 i4 g r g'
    intro hf
    replace hf : b_Statements_findMandatory_8_0 (l_Statements_findMandatory_8 n) i1 i2 i3 i4 g = some (r, g') := hf
    unfold b_Statements_findMandatory_8_0 at hf
    have h1 : ir i4 := by
      by_cases q : ir i4
      · exact q
      · rw [if_neg q] at hf; cases hf
    rw [if_pos h1] at hf
    have h2 : ir i1 := by
      by_cases q : ir i1
      · exact q
      · rw [if_neg q] at hf; cases hf
    rw [if_pos h2] at hf
    by_cases h3 : i4 < i1
    · rw [if_pos h3] at hf
      refine Rt.path ok_Statements_findMandatory 3 [0] rfl ⟨⟨⟨h1, h2⟩, h3⟩, trivial⟩ ?_
      obtain ⟨r4, g4, e4, hf⟩ := bd_inv hf
      refine Rt.path ok_Statements_findMandatory 3 [] rfl trivial ?_
      refine Rt.callV ok_Statements_findMandatory rfl ml_Statements_41 [vI _, vI _] cf_Statements_isMandatory rfl rfl (c_Statements_isMandatory_8 d _ _ _ _ _ e4) (Nat.le_of_ble_eq_true rfl) ?_
      have h5 : ir r4 := by
        by_cases q : ir r4
        · exact q
        · rw [if_neg q] at hf; cases hf
      rw [if_pos h5] at hf
      by_cases h6 : r4 = 0
      · rw [if_pos h6] at hf
        refine Rt.path ok_Statements_findMandatory 1 [1] rfl ⟨⟨h5, h6⟩, trivial⟩ ?_
        refine Rt.path ok_Statements_findMandatory 2 [] rfl trivial ?_
        exact Rt.weak ((ih _ _ _ _ _ _ _) hf) ⟨rfl, rfl, rfl, rfl, rfl, trivial⟩
      · rw [if_neg h6] at hf
        refine Rt.path ok_Statements_findMandatory 1 [0] rfl ⟨⟨h5, h6⟩, trivial⟩ ?_
        have h7 : ir i3 := by
          by_cases q : ir i3
          · exact q
          · rw [if_neg q] at hf; cases hf
        rw [if_pos h7] at hf
        have h8 : ir i2 := by
          by_cases q : ir i2
          · exact q
          · rw [if_neg q] at hf; cases hf
        rw [if_pos h8] at hf
        by_cases h9 : i3 = i2
        · rw [if_pos h9] at hf
          refine Rt.path ok_Statements_findMandatory 3 [0] rfl ⟨⟨⟨h7, h8⟩, h9⟩, trivial⟩ ?_
          cases hf
          refine Rt.path ok_Statements_findMandatory 1 [] rfl trivial ?_
          exact Rt.retI ok_Statements_findMandatory rfl rfl
        · rw [if_neg h9] at hf
          refine Rt.path ok_Statements_findMandatory 3 [1] rfl ⟨⟨⟨h7, h8⟩, h9⟩, trivial⟩ ?_
          refine Rt.path ok_Statements_findMandatory 3 [] rfl trivial ?_
          exact Rt.weak ((ih _ _ _ _ _ _ _) hf) ⟨rfl, rfl, rfl, rfl, rfl, trivial⟩
    · rw [if_neg h3] at hf
      refine Rt.path ok_Statements_findMandatory 3 [1] rfl ⟨⟨⟨h1, h2⟩, (Int.not_lt.mp h3)⟩, trivial⟩ ?_
      cases hf
      refine Rt.path ok_Statements_findMandatory 1 [] rfl trivial ?_
      exact Rt.retI ok_Statements_findMandatory rfl rfl
def f_Statements_findMandatory_8 (a1 : Int) (a2 : Int) (g : G2) : Option (Int × G2) :=
  l_Statements_findMandatory_8 20000 0 a1 a2 0 0 g
set_option maxHeartbeats 4000000 in
set_option maxRecDepth 100000 in
theorem c_Statements_findMandatory_8 (d : Nat) (a1 : Int) (a2 : Int) (g : G2) (r : Int) (g' : G2) (hf : f_Statements_findMandatory_8 a1 a2 g = some (r, g')) : C2 (d + 1) m_Statements_findMandatory [vR 8, vI a1, vI a2] g (some (vI r)) g' := by
  unfold f_Statements_findMandatory_8 at hf
  refine C2.of rfl rfl rfl (Nat.le_of_ble_eq_true rfl) ?_
  refine Rt.path ok_Statements_findMandatory 4 [] rfl trivial ?_
  exact Rt.weak ((rl_Statements_findMandatory_8 d _ _ _ _ _ _ _ _) hf) ⟨rfl, rfl, rfl, rfl, rfl, trivial⟩
def f_L_hypothesis_1 (a1 : Int) (a2 : Int) (g : G2) : Option (Int64 × G2) :=
  bd (f_Assertions_has_17 a1 g) fun r1 g1 =>
  if ir r1 then
  if r1 = 0 then
    some ((Int64.ofNat 18446744073709551615), g1)
  else
    if 0 ≤ a1 ∧ a1 < 40 then
    bd (f_Statements_findMandatory_8 (rA g1 17 a1) a2 g1) fun r5 g5 =>
    if ir r5 then
    if r5 < 0 then
      some ((Int64.ofNat 18446744073709551615), g5)
    else
      if 0 ≤ r5 ∧ r5 < 40 then
      some ((rB g5 8 r5), g5)
      else none
    else none
    else none
  else none
set_option maxHeartbeats 4000000 in
set_option maxRecDepth 100000 in
theorem c_L_hypothesis_1 (d : Nat) (a1 : Int) (a2 : Int) (g : G2) (r : Int64) (g' : G2) (hf : f_L_hypothesis_1 a1 a2 g = some (r, g')) : C2 (d + 2) m_L_hypothesis [vR 1, vI a1, vI a2] g (some (vL r)) g' := by
  unfold f_L_hypothesis_1 at hf
  refine C2.of rfl rfl rfl (Nat.le_of_ble_eq_true rfl) ?_
  obtain ⟨r1, g1, e1, hf⟩ := bd_inv hf
  refine Rt.path ok_L_hypothesis 3 [] rfl trivial ?_
  refine Rt.callV ok_L_hypothesis rfl ml_L_111 [vI _] cf_Assertions_has rfl rfl (c_Assertions_has_17 (d + 1) _ _ _ _ e1) (Nat.le_of_ble_eq_true rfl) ?_
  have h2 : ir r1 := by
    by_cases q : ir r1
    · exact q
    · rw [if_neg q] at hf; cases hf
  rw [if_pos h2] at hf
  by_cases h3 : r1 = 0
  · rw [if_pos h3] at hf
    refine Rt.path ok_L_hypothesis 1 [0] rfl ⟨⟨h2, h3⟩, trivial⟩ ?_
    cases hf
    refine Rt.path ok_L_hypothesis 1 [] rfl trivial ?_
    exact Rt.retL ok_L_hypothesis rfl rfl
  · rw [if_neg h3] at hf
    refine Rt.path ok_L_hypothesis 1 [1] rfl ⟨⟨h2, h3⟩, trivial⟩ ?_
    have h4 : 0 ≤ a1 ∧ a1 < 40 := by
      by_cases q : 0 ≤ a1 ∧ a1 < 40
      · exact q
      · rw [if_neg q] at hf; cases hf
    rw [if_pos h4] at hf
    obtain ⟨r5, g5, e5, hf⟩ := bd_inv hf
    refine Rt.path ok_L_hypothesis 8 [] rfl ⟨(ix_40 h4), trivial⟩ ?_
    refine Rt.callV ok_L_hypothesis rfl ml_L_140 [vI _, vI _] cf_Statements_findMandatory rfl rfl (c_Statements_findMandatory_8 d _ _ _ _ _ e5) (Nat.le_of_ble_eq_true rfl) ?_
    have h6 : ir r5 := by
      by_cases q : ir r5
      · exact q
      · rw [if_neg q] at hf; cases hf
    rw [if_pos h6] at hf
    by_cases h7 : r5 < 0
    · rw [if_pos h7] at hf
      refine Rt.path ok_L_hypothesis 3 [0] rfl ⟨⟨h6, h7⟩, trivial⟩ ?_
      cases hf
      refine Rt.path ok_L_hypothesis 2 [] rfl trivial ?_
      exact Rt.retL ok_L_hypothesis rfl rfl
    · rw [if_neg h7] at hf
      refine Rt.path ok_L_hypothesis 3 [1] rfl ⟨⟨h6, (Int.not_lt.mp h7)⟩, trivial⟩ ?_
      have h8 : 0 ≤ r5 ∧ r5 < 40 := by
        by_cases q : 0 ≤ r5 ∧ r5 < 40
        · exact q
        · rw [if_neg q] at hf; cases hf
      rw [if_pos h8] at hf
      cases hf
      refine Rt.path ok_L_hypothesis 5 [] rfl ⟨(ix_40 h8), trivial⟩ ?_
      exact Rt.retL ok_L_hypothesis rfl rfl
def f_L_pairs_1 (a1 : Int) (g : G2) : Option (Int × G2) :=
  bd (f_Assertions_has_17 a1 g) fun r1 g1 =>
  if ir r1 then
  if r1 = 0 then
    some ((-1), g1)
  else
    if 0 ≤ a1 ∧ a1 < 40 then
    some ((rA g1 18 a1), g1)
    else none
  else none
set_option maxHeartbeats 4000000 in
set_option maxRecDepth 100000 in
theorem c_L_pairs_1 (d : Nat) (a1 : Int) (g : G2) (r : Int) (g' : G2) (hf : f_L_pairs_1 a1 g = some (r, g')) : C2 (d + 1) m_L_pairs [vR 1, vI a1] g (some (vI r)) g' := by
  unfold f_L_pairs_1 at hf
  refine C2.of rfl rfl rfl (Nat.le_of_ble_eq_true rfl) ?_
  obtain ⟨r1, g1, e1, hf⟩ := bd_inv hf
  refine Rt.path ok_L_pairs 3 [] rfl trivial ?_
  refine Rt.callV ok_L_pairs rfl ml_L_111 [vI _] cf_Assertions_has rfl rfl (c_Assertions_has_17 d _ _ _ _ e1) (Nat.le_of_ble_eq_true rfl) ?_
  have h2 : ir r1 := by
    by_cases q : ir r1
    · exact q
    · rw [if_neg q] at hf; cases hf
  rw [if_pos h2] at hf
  by_cases h3 : r1 = 0
  · rw [if_pos h3] at hf
    refine Rt.path ok_L_pairs 1 [1] rfl ⟨⟨h2, h3⟩, trivial⟩ ?_
    cases hf
    refine Rt.path ok_L_pairs 1 [] rfl trivial ?_
    exact Rt.retI ok_L_pairs rfl rfl
  · rw [if_neg h3] at hf
    refine Rt.path ok_L_pairs 1 [0] rfl ⟨⟨h2, h3⟩, trivial⟩ ?_
    have h4 : 0 ≤ a1 ∧ a1 < 40 := by
      by_cases q : 0 ≤ a1 ∧ a1 < 40
      · exact q
      · rw [if_neg q] at hf; cases hf
    rw [if_pos h4] at hf
    cases hf
    refine Rt.path ok_L_pairs 6 [] rfl ⟨(ix_40 h4), trivial⟩ ?_
    exact Rt.retI ok_L_pairs rfl rfl
def b_L_apart_1_0 (L : Nat → Int → Int64 → Int64 → Int → G2 → Option (Int × G2)) (i1 : Int) (l2 : Int64) (l4 : Int64) (i6 : Int) (g : G2) : Option (Int × G2) :=
  if 0 ≤ i1 ∧ i1 < 40 then
  if ir i6 then
  if ir (rA g 18 i1) then
  if i6 < (rA g 18 i1) then
    bd (f_Assertions_firstOfPair_17 i1 i6 g) fun r8 g8 =>
    if 0 ≤ r8 ∧ r8 < 60 then
    bd (f_Assertions_secondOfPair_17 i1 i6 g8) fun r10 g10 =>
    if 0 ≤ r10 ∧ r10 < 60 then
    if (rB g8 4 r8) = l2 then
      if (rB g10 4 r10) = l4 then
        some (1, g10)
      else
        if (rB g8 4 r8) = l4 then
          if (rB g10 4 r10) = l2 then
            some (1, g10)
          else
            L 0 i1 l2 l4 (i6 + 1) g10
        else
          L 0 i1 l2 l4 (i6 + 1) g10
    else
      if (rB g8 4 r8) = l4 then
        if (rB g10 4 r10) = l2 then
          some (1, g10)
        else
          L 0 i1 l2 l4 (i6 + 1) g10
      else
        L 0 i1 l2 l4 (i6 + 1) g10
    else none
    else none
  else
    some (0, g)
  else none
  else none
  else none
def l_L_apart_1 : Nat → Nat → Int → Int64 → Int64 → Int → G2 → Option (Int × G2)
  | 0 => fun _ _ _ _ _ _ => none
  | n + 1 => fun t i1 l2 l4 i6 g => match t with
    | _ => b_L_apart_1_0 (l_L_apart_1 n) i1 l2 l4 i6 g
set_option maxHeartbeats 4000000 in
set_option maxRecDepth 100000 in
theorem rl_L_apart_1 (d : Nat) : ∀ (n : Nat) (i1 : Int) (l2 : Int64) (l4 : Int64) (i6 : Int) (g : G2) (r : Int) (g' : G2), (l_L_apart_1 n 0 i1 l2 l4 i6 g = some (r, g') → Rt (d + 2) m_L_apart 16 [some (vR 1), some (vI i1), some (vL l2), none, some (vL l4), none, some (vI i6), none, none, none, none] [] g (some (vI r)) g') := by
  intro n
  induction n with
  | zero => intro i1 l2 l4 i6 g r g'; exact fun hf => by cases hf
  | succ n ih =>
    intro i1 l2 l4 i6 g r g'
    intro hf
    replace hf : b_L_apart_1_0 (l_L_apart_1 n) i1 l2 l4 i6 g = some (r, g') := hf
    unfold b_L_apart_1_0 at hf
    have h4 : 0 ≤ i1 ∧ i1 < 40 := by
      by_cases q : 0 ≤ i1 ∧ i1 < 40
      · exact q
      · rw [if_neg q] at hf; cases hf
    rw [if_pos h4] at hf
    have h5 : ir i6 := by
      by_cases q : ir i6
      · exact q
      · rw [if_neg q] at hf; cases hf
    rw [if_pos h5] at hf
    have h6 : ir (rA g 18 i1) := by
      by_cases q : ir (rA g 18 i1)
      · exact q
      · rw [if_neg q] at hf; cases hf
    rw [if_pos h6] at hf
    by_cases h7 : i6 < (rA g 18 i1)
    · rw [if_pos h7] at hf
      refine Rt.path ok_L_apart 7 [0] rfl ⟨(ix_40 h4), ⟨⟨h5, h6⟩, h7⟩, trivial⟩ ?_
      obtain ⟨r8, g8, e8, hf⟩ := bd_inv hf
      refine Rt.path ok_L_apart 7 [] rfl trivial ?_
      refine Rt.callV ok_L_apart rfl ml_L_146 [vI _, vI _] cf_Assertions_firstOfPair rfl rfl (c_Assertions_firstOfPair_17 d _ _ _ _ _ e8) (Nat.le_of_ble_eq_true rfl) ?_
      have h9 : 0 ≤ r8 ∧ r8 < 60 := by
        by_cases q : 0 ≤ r8 ∧ r8 < 60
        · exact q
        · rw [if_neg q] at hf; cases hf
      rw [if_pos h9] at hf
      obtain ⟨r10, g10, e10, hf⟩ := bd_inv hf
      refine Rt.path ok_L_apart 9 [] rfl ⟨(ix_60 h9), trivial⟩ ?_
      refine Rt.callV ok_L_apart rfl ml_L_149 [vI _, vI _] cf_Assertions_secondOfPair rfl rfl (c_Assertions_secondOfPair_17 d _ _ _ _ _ e10) (Nat.le_of_ble_eq_true rfl) ?_
      have h11 : 0 ≤ r10 ∧ r10 < 60 := by
        by_cases q : 0 ≤ r10 ∧ r10 < 60
        · exact q
        · rw [if_neg q] at hf; cases hf
      rw [if_pos h11] at hf
      by_cases h12 : (rB g8 4 r8) = l2
      · rw [if_pos h12] at hf
        refine Rt.path ok_L_apart 6 [0] rfl ⟨(ix_60 h11), ⟨(am_cmpIn _ _), (am_cmp0.mpr h12)⟩, trivial⟩ ?_
        by_cases h13 : (rB g10 4 r10) = l4
        · rw [if_pos h13] at hf
          refine Rt.path ok_L_apart 4 [1] rfl ⟨⟨(am_cmpIn _ _), (am_cmp0.mpr h13)⟩, trivial⟩ ?_
          cases hf
          refine Rt.path ok_L_apart 1 [] rfl trivial ?_
          exact Rt.retZ ok_L_apart (show (1 : Int) = 0 ∨ (1 : Int) = 1 by decide) rfl rfl
        · rw [if_neg h13] at hf
          refine Rt.path ok_L_apart 4 [0] rfl ⟨⟨(am_cmpIn _ _), (fun q => h13 (am_cmp0.mp q))⟩, trivial⟩ ?_
          by_cases h14 : (rB g8 4 r8) = l4
          · rw [if_pos h14] at hf
            refine Rt.path ok_L_apart 4 [0] rfl ⟨⟨(am_cmpIn _ _), (am_cmp0.mpr h14)⟩, trivial⟩ ?_
            by_cases h15 : (rB g10 4 r10) = l2
            · rw [if_pos h15] at hf
              refine Rt.path ok_L_apart 4 [0] rfl ⟨⟨(am_cmpIn _ _), (am_cmp0.mpr h15)⟩, trivial⟩ ?_
              cases hf
              refine Rt.path ok_L_apart 1 [] rfl trivial ?_
              exact Rt.retZ ok_L_apart (show (1 : Int) = 0 ∨ (1 : Int) = 1 by decide) rfl rfl
            · rw [if_neg h15] at hf
              refine Rt.path ok_L_apart 4 [1] rfl ⟨⟨(am_cmpIn _ _), (fun q => h15 (am_cmp0.mp q))⟩, trivial⟩ ?_
              refine Rt.path ok_L_apart 2 [] rfl trivial ?_
              exact Rt.weak ((ih _ _ _ _ _ _ _) hf) ⟨rfl, rfl, rfl, rfl, rfl, trivial⟩
          · rw [if_neg h14] at hf
            refine Rt.path ok_L_apart 4 [1] rfl ⟨⟨(am_cmpIn _ _), (fun q => h14 (am_cmp0.mp q))⟩, trivial⟩ ?_
            refine Rt.path ok_L_apart 2 [] rfl trivial ?_
            exact Rt.weak ((ih _ _ _ _ _ _ _) hf) ⟨rfl, rfl, rfl, rfl, rfl, trivial⟩
      · rw [if_neg h12] at hf
        refine Rt.path ok_L_apart 6 [1] rfl ⟨(ix_60 h11), ⟨(am_cmpIn _ _), (fun q => h12 (am_cmp0.mp q))⟩, trivial⟩ ?_
        by_cases h16 : (rB g8 4 r8) = l4
        · rw [if_pos h16] at hf
          refine Rt.path ok_L_apart 4 [0] rfl ⟨⟨(am_cmpIn _ _), (am_cmp0.mpr h16)⟩, trivial⟩ ?_
          by_cases h17 : (rB g10 4 r10) = l2
          · rw [if_pos h17] at hf
            refine Rt.path ok_L_apart 4 [0] rfl ⟨⟨(am_cmpIn _ _), (am_cmp0.mpr h17)⟩, trivial⟩ ?_
            cases hf
            refine Rt.path ok_L_apart 1 [] rfl trivial ?_
            exact Rt.retZ ok_L_apart (show (1 : Int) = 0 ∨ (1 : Int) = 1 by decide) rfl rfl
          · rw [if_neg h17] at hf
            refine Rt.path ok_L_apart 4 [1] rfl ⟨⟨(am_cmpIn _ _), (fun q => h17 (am_cmp0.mp q))⟩, trivial⟩ ?_
            refine Rt.path ok_L_apart 2 [] rfl trivial ?_
            exact Rt.weak ((ih _ _ _ _ _ _ _) hf) ⟨rfl, rfl, rfl, rfl, rfl, trivial⟩
        · rw [if_neg h16] at hf
          refine Rt.path ok_L_apart 4 [1] rfl ⟨⟨(am_cmpIn _ _), (fun q => h16 (am_cmp0.mp q))⟩, trivial⟩ ?_
          refine Rt.path ok_L_apart 2 [] rfl trivial ?_
          exact Rt.weak ((ih _ _ _ _ _ _ _) hf) ⟨rfl, rfl, rfl, rfl, rfl, trivial⟩
    · rw [if_neg h7] at hf
      refine Rt.path ok_L_apart 7 [1] rfl ⟨(ix_40 h4), ⟨⟨h5, h6⟩, (Int.not_lt.mp h7)⟩, trivial⟩ ?_
      cases hf
      refine Rt.path ok_L_apart 1 [] rfl trivial ?_
      exact Rt.retZ ok_L_apart (show (0 : Int) = 0 ∨ (0 : Int) = 1 by decide) rfl rfl
def f_L_apart_1 (a1 : Int) (a2 : Int64) (a4 : Int64) (g : G2) : Option (Int × G2) :=
  bd (f_Assertions_has_17 a1 g) fun r1 g1 =>
  if ir r1 then
  if r1 = 0 then
    some (0, g1)
  else
    l_L_apart_1 20000 0 a1 a2 a4 0 g1
  else none
set_option maxHeartbeats 4000000 in
set_option maxRecDepth 100000 in
theorem c_L_apart_1 (d : Nat) (a1 : Int) (a2 : Int64) (a4 : Int64) (g : G2) (r : Int) (g' : G2) (hf : f_L_apart_1 a1 a2 a4 g = some (r, g')) : C2 (d + 2) m_L_apart [vR 1, vI a1, vL a2, vL a4] g (some (vI r)) g' := by
  unfold f_L_apart_1 at hf
  refine C2.of rfl rfl rfl (Nat.le_of_ble_eq_true rfl) ?_
  obtain ⟨r1, g1, e1, hf⟩ := bd_inv hf
  refine Rt.path ok_L_apart 3 [] rfl trivial ?_
  refine Rt.callV ok_L_apart rfl ml_L_111 [vI _] cf_Assertions_has rfl rfl (c_Assertions_has_17 (d + 1) _ _ _ _ e1) (Nat.le_of_ble_eq_true rfl) ?_
  have h2 : ir r1 := by
    by_cases q : ir r1
    · exact q
    · rw [if_neg q] at hf; cases hf
  rw [if_pos h2] at hf
  by_cases h3 : r1 = 0
  · rw [if_pos h3] at hf
    refine Rt.path ok_L_apart 1 [0] rfl ⟨⟨h2, h3⟩, trivial⟩ ?_
    cases hf
    refine Rt.path ok_L_apart 1 [] rfl trivial ?_
    exact Rt.retZ ok_L_apart (show (0 : Int) = 0 ∨ (0 : Int) = 1 by decide) rfl rfl
  · rw [if_neg h3] at hf
    refine Rt.path ok_L_apart 1 [1] rfl ⟨⟨h2, h3⟩, trivial⟩ ?_
    refine Rt.path ok_L_apart 2 [] rfl trivial ?_
    exact Rt.weak ((rl_L_apart_1 d _ _ _ _ _ _ _ _) hf) ⟨rfl, rfl, rfl, rfl, rfl, trivial⟩
def f_L_steps_1 (a1 : Int) (g : G2) : Option (Int × G2) :=
  bd (f_Assertions_has_17 a1 g) fun r1 g1 =>
  if ir r1 then
  if r1 = 0 then
    some ((-1), g1)
  else
    if 0 ≤ a1 ∧ a1 < 40 then
    some ((rA g1 20 a1), g1)
    else none
  else none
set_option maxHeartbeats 4000000 in
set_option maxRecDepth 100000 in
theorem c_L_steps_1 (d : Nat) (a1 : Int) (g : G2) (r : Int) (g' : G2) (hf : f_L_steps_1 a1 g = some (r, g')) : C2 (d + 1) m_L_steps [vR 1, vI a1] g (some (vI r)) g' := by
  unfold f_L_steps_1 at hf
  refine C2.of rfl rfl rfl (Nat.le_of_ble_eq_true rfl) ?_
  obtain ⟨r1, g1, e1, hf⟩ := bd_inv hf
  refine Rt.path ok_L_steps 3 [] rfl trivial ?_
  refine Rt.callV ok_L_steps rfl ml_L_111 [vI _] cf_Assertions_has rfl rfl (c_Assertions_has_17 d _ _ _ _ e1) (Nat.le_of_ble_eq_true rfl) ?_
  have h2 : ir r1 := by
    by_cases q : ir r1
    · exact q
    · rw [if_neg q] at hf; cases hf
  rw [if_pos h2] at hf
  by_cases h3 : r1 = 0
  · rw [if_pos h3] at hf
    refine Rt.path ok_L_steps 1 [1] rfl ⟨⟨h2, h3⟩, trivial⟩ ?_
    cases hf
    refine Rt.path ok_L_steps 1 [] rfl trivial ?_
    exact Rt.retI ok_L_steps rfl rfl
  · rw [if_neg h3] at hf
    refine Rt.path ok_L_steps 1 [0] rfl ⟨⟨h2, h3⟩, trivial⟩ ?_
    have h4 : 0 ≤ a1 ∧ a1 < 40 := by
      by_cases q : 0 ≤ a1 ∧ a1 < 40
      · exact q
      · rw [if_neg q] at hf; cases hf
    rw [if_pos h4] at hf
    cases hf
    refine Rt.path ok_L_steps 6 [] rfl ⟨(ix_40 h4), trivial⟩ ?_
    exact Rt.retI ok_L_steps rfl rfl
def f_L_depth_1 (a1 : Int) (g : G2) : Option (Int × G2) :=
  bd (f_Assertions_has_17 a1 g) fun r1 g1 =>
  if ir r1 then
  if r1 = 0 then
    some ((-1), g1)
  else
    if 0 ≤ a1 ∧ a1 < 40 then
    some ((rA g1 21 a1), g1)
    else none
  else none
set_option maxHeartbeats 4000000 in
set_option maxRecDepth 100000 in
theorem c_L_depth_1 (d : Nat) (a1 : Int) (g : G2) (r : Int) (g' : G2) (hf : f_L_depth_1 a1 g = some (r, g')) : C2 (d + 1) m_L_depth [vR 1, vI a1] g (some (vI r)) g' := by
  unfold f_L_depth_1 at hf
  refine C2.of rfl rfl rfl (Nat.le_of_ble_eq_true rfl) ?_
  obtain ⟨r1, g1, e1, hf⟩ := bd_inv hf
  refine Rt.path ok_L_depth 3 [] rfl trivial ?_
  refine Rt.callV ok_L_depth rfl ml_L_111 [vI _] cf_Assertions_has rfl rfl (c_Assertions_has_17 d _ _ _ _ e1) (Nat.le_of_ble_eq_true rfl) ?_
  have h2 : ir r1 := by
    by_cases q : ir r1
    · exact q
    · rw [if_neg q] at hf; cases hf
  rw [if_pos h2] at hf
  by_cases h3 : r1 = 0
  · rw [if_pos h3] at hf
    refine Rt.path ok_L_depth 1 [1] rfl ⟨⟨h2, h3⟩, trivial⟩ ?_
    cases hf
    refine Rt.path ok_L_depth 1 [] rfl trivial ?_
    exact Rt.retI ok_L_depth rfl rfl
  · rw [if_neg h3] at hf
    refine Rt.path ok_L_depth 1 [0] rfl ⟨⟨h2, h3⟩, trivial⟩ ?_
    have h4 : 0 ≤ a1 ∧ a1 < 40 := by
      by_cases q : 0 ≤ a1 ∧ a1 < 40
      · exact q
      · rw [if_neg q] at hf; cases hf
    rw [if_pos h4] at hf
    cases hf
    refine Rt.path ok_L_depth 6 [] rfl ⟨(ix_40 h4), trivial⟩ ?_
    exact Rt.retI ok_L_depth rfl rfl
def f_Assertions_countUses_17 (a1 : Int) (a2 : Int) (g : G2) : Option (Int × G2) :=
  if 0 ≤ ((a1 * 40) + a2) ∧ ((a1 * 40) + a2) < 1600 then
  some ((rA g 22 ((a1 * 40) + a2)), g)
  else none
set_option maxHeartbeats 4000000 in
set_option maxRecDepth 100000 in
theorem c_Assertions_countUses_17 (d : Nat) (a1 : Int) (a2 : Int) (g : G2) (r : Int) (g' : G2) (hf : f_Assertions_countUses_17 a1 a2 g = some (r, g')) : C2 d m_Assertions_countUses [vR 17, vI a1, vI a2] g (some (vI r)) g' := by
  unfold f_Assertions_countUses_17 at hf
  refine C2.of rfl rfl rfl (Nat.le_of_ble_eq_true rfl) ?_
  have h1 : 0 ≤ ((a1 * 40) + a2) ∧ ((a1 * 40) + a2) < 1600 := by
    by_cases q : 0 ≤ ((a1 * 40) + a2) ∧ ((a1 * 40) + a2) < 1600
    · exact q
    · rw [if_neg q] at hf; cases hf
  rw [if_pos h1] at hf
  cases hf
  refine Rt.path ok_Assertions_countUses 8 [] rfl ⟨(ix_1600 h1), trivial⟩ ?_
  exact Rt.retI ok_Assertions_countUses rfl rfl
def f_L_uses_1 (a1 : Int) (a2 : Int) (g : G2) : Option (Int × G2) :=
  bd (f_Assertions_has_17 a1 g) fun r1 g1 =>
  if ir r1 then
  if r1 = 0 then
    some ((-1), g1)
  else
    bd (f_Assertions_has_17 a2 g1) fun r4 g4 =>
    if ir r4 then
    if r4 = 0 then
      some (0, g4)
    else
      bd (f_Assertions_countUses_17 a1 a2 g4) fun r7 g7 =>
      some (r7, g7)
    else none
  else none
set_option maxHeartbeats 4000000 in
set_option maxRecDepth 100000 in
theorem c_L_uses_1 (d : Nat) (a1 : Int) (a2 : Int) (g : G2) (r : Int) (g' : G2) (hf : f_L_uses_1 a1 a2 g = some (r, g')) : C2 (d + 1) m_L_uses [vR 1, vI a1, vI a2] g (some (vI r)) g' := by
  unfold f_L_uses_1 at hf
  refine C2.of rfl rfl rfl (Nat.le_of_ble_eq_true rfl) ?_
  obtain ⟨r1, g1, e1, hf⟩ := bd_inv hf
  refine Rt.path ok_L_uses 3 [] rfl trivial ?_
  refine Rt.callV ok_L_uses rfl ml_L_111 [vI _] cf_Assertions_has rfl rfl (c_Assertions_has_17 d _ _ _ _ e1) (Nat.le_of_ble_eq_true rfl) ?_
  have h2 : ir r1 := by
    by_cases q : ir r1
    · exact q
    · rw [if_neg q] at hf; cases hf
  rw [if_pos h2] at hf
  by_cases h3 : r1 = 0
  · rw [if_pos h3] at hf
    refine Rt.path ok_L_uses 1 [0] rfl ⟨⟨h2, h3⟩, trivial⟩ ?_
    cases hf
    refine Rt.path ok_L_uses 1 [] rfl trivial ?_
    exact Rt.retI ok_L_uses rfl rfl
  · rw [if_neg h3] at hf
    refine Rt.path ok_L_uses 1 [1] rfl ⟨⟨h2, h3⟩, trivial⟩ ?_
    obtain ⟨r4, g4, e4, hf⟩ := bd_inv hf
    refine Rt.path ok_L_uses 3 [] rfl trivial ?_
    refine Rt.callV ok_L_uses rfl ml_L_111 [vI _] cf_Assertions_has rfl rfl (c_Assertions_has_17 d _ _ _ _ e4) (Nat.le_of_ble_eq_true rfl) ?_
    have h5 : ir r4 := by
      by_cases q : ir r4
      · exact q
      · rw [if_neg q] at hf; cases hf
    rw [if_pos h5] at hf
    by_cases h6 : r4 = 0
    · rw [if_pos h6] at hf
      refine Rt.path ok_L_uses 1 [1] rfl ⟨⟨h5, h6⟩, trivial⟩ ?_
      cases hf
      refine Rt.path ok_L_uses 1 [] rfl trivial ?_
      exact Rt.retI ok_L_uses rfl rfl
    · rw [if_neg h6] at hf
      refine Rt.path ok_L_uses 1 [0] rfl ⟨⟨h5, h6⟩, trivial⟩ ?_
      obtain ⟨r7, g7, e7, hf⟩ := bd_inv hf
      refine Rt.path ok_L_uses 4 [] rfl trivial ?_
      refine Rt.callV ok_L_uses rfl ml_L_158 [vI _, vI _] cf_Assertions_countUses rfl rfl (c_Assertions_countUses_17 d _ _ _ _ _ e7) (Nat.le_of_ble_eq_true rfl) ?_
      cases hf
      refine Rt.path ok_L_uses 1 [] rfl trivial ?_
      exact Rt.retI ok_L_uses rfl rfl
def f_L_proved_1 (a1 : Int) (g : G2) : Option (Int × G2) :=
  bd (f_Assertions_has_17 a1 g) fun r1 g1 =>
  if ir r1 then
  if r1 = 0 then
    some (0, g1)
  else
    if 0 ≤ a1 ∧ a1 < 40 then
    if ir (rA g1 24 a1) then
    if (rA g1 24 a1) = 0 then
      some (0, g1)
    else
      some (1, g1)
    else none
    else none
  else none
set_option maxHeartbeats 4000000 in
set_option maxRecDepth 100000 in
theorem c_L_proved_1 (d : Nat) (a1 : Int) (g : G2) (r : Int) (g' : G2) (hf : f_L_proved_1 a1 g = some (r, g')) : C2 (d + 1) m_L_proved [vR 1, vI a1] g (some (vI r)) g' := by
  unfold f_L_proved_1 at hf
  refine C2.of rfl rfl rfl (Nat.le_of_ble_eq_true rfl) ?_
  obtain ⟨r1, g1, e1, hf⟩ := bd_inv hf
  refine Rt.path ok_L_proved 3 [] rfl trivial ?_
  refine Rt.callV ok_L_proved rfl ml_L_111 [vI _] cf_Assertions_has rfl rfl (c_Assertions_has_17 d _ _ _ _ e1) (Nat.le_of_ble_eq_true rfl) ?_
  have h2 : ir r1 := by
    by_cases q : ir r1
    · exact q
    · rw [if_neg q] at hf; cases hf
  rw [if_pos h2] at hf
  by_cases h3 : r1 = 0
  · rw [if_pos h3] at hf
    refine Rt.path ok_L_proved 1 [1] rfl ⟨⟨h2, h3⟩, trivial⟩ ?_
    cases hf
    refine Rt.path ok_L_proved 1 [] rfl trivial ?_
    exact Rt.retZ ok_L_proved (show (0 : Int) = 0 ∨ (0 : Int) = 1 by decide) rfl rfl
  · rw [if_neg h3] at hf
    refine Rt.path ok_L_proved 1 [0] rfl ⟨⟨h2, h3⟩, trivial⟩ ?_
    have h4 : 0 ≤ a1 ∧ a1 < 40 := by
      by_cases q : 0 ≤ a1 ∧ a1 < 40
      · exact q
      · rw [if_neg q] at hf; cases hf
    rw [if_pos h4] at hf
    have h5 : ir (rA g1 24 a1) := by
      by_cases q : ir (rA g1 24 a1)
      · exact q
      · rw [if_neg q] at hf; cases hf
    rw [if_pos h5] at hf
    by_cases h6 : (rA g1 24 a1) = 0
    · rw [if_pos h6] at hf
      refine Rt.path ok_L_proved 6 [1] rfl ⟨(ix_40 h4), ⟨h5, h6⟩, trivial⟩ ?_
      cases hf
      refine Rt.path ok_L_proved 1 [] rfl trivial ?_
      exact Rt.retZ ok_L_proved (show (0 : Int) = 0 ∨ (0 : Int) = 1 by decide) rfl rfl
    · rw [if_neg h6] at hf
      refine Rt.path ok_L_proved 6 [0] rfl ⟨(ix_40 h4), ⟨h5, h6⟩, trivial⟩ ?_
      cases hf
      refine Rt.path ok_L_proved 2 [] rfl trivial ?_
      exact Rt.retZ ok_L_proved (show (1 : Int) = 0 ∨ (1 : Int) = 1 by decide) rfl rfl
