def f_Reader_isActive_26 (a1 : Int) (g : G2) : Option (Int × G2) :=
  if ((am_ushr (rJ g 26 0) a1) &&& (Int64.ofNat 1)) = (Int64.ofNat 0) then
    some (0, g)
  else
    some (1, g)
set_option maxHeartbeats 4000000 in
set_option maxRecDepth 100000 in
theorem c_Reader_isActive_26 (d : Nat) (a1 : Int) (g : G2) (r : Int) (g' : G2) (hf : f_Reader_isActive_26 a1 g = some (r, g')) : C2 d m_Reader_isActive [vR 26, vI a1] g (some (vI r)) g' := by
  unfold f_Reader_isActive_26 at hf
  refine C2.of rfl rfl rfl (Nat.le_of_ble_eq_true rfl) ?_
  by_cases h1 : ((am_ushr (rJ g 26 0) a1) &&& (Int64.ofNat 1)) = (Int64.ofNat 0)
  · rw [if_pos h1] at hf
    refine Rt.path ok_Reader_isActive 10 [1] rfl ⟨⟨(am_cmpIn _ _), (am_cmp0.mpr h1)⟩, trivial⟩ ?_
    cases hf
    refine Rt.path ok_Reader_isActive 1 [] rfl trivial ?_
    exact Rt.retZ ok_Reader_isActive (show (0 : Int) = 0 ∨ (0 : Int) = 1 by decide) rfl rfl
  · rw [if_neg h1] at hf
    refine Rt.path ok_Reader_isActive 10 [0] rfl ⟨⟨(am_cmpIn _ _), (fun q => h1 (am_cmp0.mp q))⟩, trivial⟩ ?_
    cases hf
    refine Rt.path ok_Reader_isActive 2 [] rfl trivial ?_
    exact Rt.retZ ok_Reader_isActive (show (1 : Int) = 0 ∨ (1 : Int) = 1 by decide) rfl rfl
def f_Reader_declareVariable_26 (a1 : Int64) (g : G2) : Option (Int × G2) :=
  bd (f_Names_find_4 a1 g) fun r1 g1 =>
  if ir r1 then
  if r1 = (-1) then
    bd (f_Names_isFull_4 g1) fun r4 g4 =>
    if ir r4 then
    if r4 = 0 then
      if r1 = (-1) then
        bd (f_Names_add_4 a1 1 g4) fun r8 g8 =>
        some (0, (gI (gJ g8 26 0 ((rJ g8 26 0) ||| (am_shl (Int64.ofNat 1) r8))) 25 7 ((rI g8 25 7) + 1)))
      else
        if 0 ≤ r1 ∧ r1 < 60 then
        if ir (rA g4 5 r1) then
        if (rA g4 5 r1) = 1 then
          bd (f_Reader_isActive_26 r1 g4) fun r12 g12 =>
          if ir r12 then
          if r12 = 0 then
            some (0, (gI (gJ g12 26 0 ((rJ g12 26 0) ||| (am_shl (Int64.ofNat 1) r1))) 25 7 ((rI g12 25 7) + 1)))
          else
            some ((-4), g12)
          else none
        else
          some ((-4), g4)
        else none
        else none
    else
      some ((-7), g4)
    else none
  else
    if r1 = (-1) then
      bd (f_Names_add_4 a1 1 g1) fun r16 g16 =>
      some (0, (gI (gJ g16 26 0 ((rJ g16 26 0) ||| (am_shl (Int64.ofNat 1) r16))) 25 7 ((rI g16 25 7) + 1)))
    else
      if 0 ≤ r1 ∧ r1 < 60 then
      if ir (rA g1 5 r1) then
      if (rA g1 5 r1) = 1 then
        bd (f_Reader_isActive_26 r1 g1) fun r20 g20 =>
        if ir r20 then
        if r20 = 0 then
          some (0, (gI (gJ g20 26 0 ((rJ g20 26 0) ||| (am_shl (Int64.ofNat 1) r1))) 25 7 ((rI g20 25 7) + 1)))
        else
          some ((-4), g20)
        else none
      else
        some ((-4), g1)
      else none
      else none
  else none
set_option maxHeartbeats 4000000 in
set_option maxRecDepth 100000 in
theorem c_Reader_declareVariable_26 (d : Nat) (a1 : Int64) (g : G2) (r : Int) (g' : G2) (hf : f_Reader_declareVariable_26 a1 g = some (r, g')) : C2 (d + 1) m_Reader_declareVariable [vR 26, vL a1] g (some (vI r)) g' := by
  unfold f_Reader_declareVariable_26 at hf
  refine C2.of rfl rfl rfl (Nat.le_of_ble_eq_true rfl) ?_
  obtain ⟨r1, g1, e1, hf⟩ := bd_inv hf
  refine Rt.path ok_Reader_declareVariable 3 [] rfl trivial ?_
  refine Rt.callV ok_Reader_declareVariable rfl ml_Reader_118 [vL _] cf_Names_find rfl rfl (c_Names_find_4 d _ _ _ _ e1) (Nat.le_of_ble_eq_true rfl) ?_
  have h2 : ir r1 := by
    by_cases q : ir r1
    · exact q
    · rw [if_neg q] at hf; cases hf
  rw [if_pos h2] at hf
  by_cases h3 : r1 = (-1)
  · rw [if_pos h3] at hf
    refine Rt.path ok_Reader_declareVariable 4 [0] rfl ⟨⟨⟨h2, (show ir (-1) by decide)⟩, h3⟩, trivial⟩ ?_
    obtain ⟨r4, g4, e4, hf⟩ := bd_inv hf
    refine Rt.path ok_Reader_declareVariable 2 [] rfl trivial ?_
    refine Rt.callV ok_Reader_declareVariable rfl ml_Reader_161 [] cf_Names_isFull rfl rfl (c_Names_isFull_4 d _ _ _ e4) (Nat.le_of_ble_eq_true rfl) ?_
    have h5 : ir r4 := by
      by_cases q : ir r4
      · exact q
      · rw [if_neg q] at hf; cases hf
    rw [if_pos h5] at hf
    by_cases h6 : r4 = 0
    · rw [if_pos h6] at hf
      refine Rt.path ok_Reader_declareVariable 1 [1] rfl ⟨⟨h5, h6⟩, trivial⟩ ?_
      by_cases h7 : r1 = (-1)
      · rw [if_pos h7] at hf
        refine Rt.path ok_Reader_declareVariable 3 [0] rfl ⟨⟨⟨h2, (show ir (-1) by decide)⟩, h7⟩, trivial⟩ ?_
        obtain ⟨r8, g8, e8, hf⟩ := bd_inv hf
        refine Rt.path ok_Reader_declareVariable 4 [] rfl trivial ?_
        refine Rt.callV ok_Reader_declareVariable rfl ml_Reader_164 [vL _, vI _] cf_Names_add rfl rfl (c_Names_add_4 d _ _ _ _ _ e8) (Nat.le_of_ble_eq_true rfl) ?_
        cases hf
        refine Rt.path ok_Reader_declareVariable 18 [] rfl trivial ?_
        exact Rt.retI ok_Reader_declareVariable rfl rfl
      · rw [if_neg h7] at hf
        refine Rt.path ok_Reader_declareVariable 3 [1] rfl ⟨⟨⟨h2, (show ir (-1) by decide)⟩, h7⟩, trivial⟩ ?_
        have h9 : 0 ≤ r1 ∧ r1 < 60 := by
          by_cases q : 0 ≤ r1 ∧ r1 < 60
          · exact q
          · rw [if_neg q] at hf; cases hf
        rw [if_pos h9] at hf
        have h10 : ir (rA g4 5 r1) := by
          by_cases q : ir (rA g4 5 r1)
          · exact q
          · rw [if_neg q] at hf; cases hf
        rw [if_pos h10] at hf
        by_cases h11 : (rA g4 5 r1) = 1
        · rw [if_pos h11] at hf
          refine Rt.path ok_Reader_declareVariable 7 [0] rfl ⟨(ix_60 h9), ⟨⟨h10, (show ir 1 by decide)⟩, h11⟩, trivial⟩ ?_
          obtain ⟨r12, g12, e12, hf⟩ := bd_inv hf
          refine Rt.path ok_Reader_declareVariable 2 [] rfl trivial ?_
          refine Rt.callV ok_Reader_declareVariable rfl ml_Reader_172 [vI _] cf_Reader_isActive rfl rfl (c_Reader_isActive_26 d _ _ _ _ e12) (Nat.le_of_ble_eq_true rfl) ?_
          have h13 : ir r12 := by
            by_cases q : ir r12
            · exact q
            · rw [if_neg q] at hf; cases hf
          rw [if_pos h13] at hf
          by_cases h14 : r12 = 0
          · rw [if_pos h14] at hf
            refine Rt.path ok_Reader_declareVariable 1 [1] rfl ⟨⟨h13, h14⟩, trivial⟩ ?_
            cases hf
            refine Rt.path ok_Reader_declareVariable 16 [] rfl trivial ?_
            exact Rt.retI ok_Reader_declareVariable rfl rfl
          · rw [if_neg h14] at hf
            refine Rt.path ok_Reader_declareVariable 1 [0] rfl ⟨⟨h13, h14⟩, trivial⟩ ?_
            cases hf
            refine Rt.path ok_Reader_declareVariable 1 [] rfl trivial ?_
            exact Rt.retI ok_Reader_declareVariable rfl rfl
        · rw [if_neg h11] at hf
          refine Rt.path ok_Reader_declareVariable 7 [1] rfl ⟨(ix_60 h9), ⟨⟨h10, (show ir 1 by decide)⟩, h11⟩, trivial⟩ ?_
          cases hf
          refine Rt.path ok_Reader_declareVariable 1 [] rfl trivial ?_
          exact Rt.retI ok_Reader_declareVariable rfl rfl
    · rw [if_neg h6] at hf
      refine Rt.path ok_Reader_declareVariable 1 [0] rfl ⟨⟨h5, h6⟩, trivial⟩ ?_
      cases hf
      refine Rt.path ok_Reader_declareVariable 1 [] rfl trivial ?_
      exact Rt.retI ok_Reader_declareVariable rfl rfl
  · rw [if_neg h3] at hf
    refine Rt.path ok_Reader_declareVariable 4 [1] rfl ⟨⟨⟨h2, (show ir (-1) by decide)⟩, h3⟩, trivial⟩ ?_
    by_cases h15 : r1 = (-1)
    · rw [if_pos h15] at hf
      refine Rt.path ok_Reader_declareVariable 3 [0] rfl ⟨⟨⟨h2, (show ir (-1) by decide)⟩, h15⟩, trivial⟩ ?_
      obtain ⟨r16, g16, e16, hf⟩ := bd_inv hf
      refine Rt.path ok_Reader_declareVariable 4 [] rfl trivial ?_
      refine Rt.callV ok_Reader_declareVariable rfl ml_Reader_164 [vL _, vI _] cf_Names_add rfl rfl (c_Names_add_4 d _ _ _ _ _ e16) (Nat.le_of_ble_eq_true rfl) ?_
      cases hf
      refine Rt.path ok_Reader_declareVariable 18 [] rfl trivial ?_
      exact Rt.retI ok_Reader_declareVariable rfl rfl
    · rw [if_neg h15] at hf
      refine Rt.path ok_Reader_declareVariable 3 [1] rfl ⟨⟨⟨h2, (show ir (-1) by decide)⟩, h15⟩, trivial⟩ ?_
      have h17 : 0 ≤ r1 ∧ r1 < 60 := by
        by_cases q : 0 ≤ r1 ∧ r1 < 60
        · exact q
        · rw [if_neg q] at hf; cases hf
      rw [if_pos h17] at hf
      have h18 : ir (rA g1 5 r1) := by
        by_cases q : ir (rA g1 5 r1)
        · exact q
        · rw [if_neg q] at hf; cases hf
      rw [if_pos h18] at hf
      by_cases h19 : (rA g1 5 r1) = 1
      · rw [if_pos h19] at hf
        refine Rt.path ok_Reader_declareVariable 7 [0] rfl ⟨(ix_60 h17), ⟨⟨h18, (show ir 1 by decide)⟩, h19⟩, trivial⟩ ?_
        obtain ⟨r20, g20, e20, hf⟩ := bd_inv hf
        refine Rt.path ok_Reader_declareVariable 2 [] rfl trivial ?_
        refine Rt.callV ok_Reader_declareVariable rfl ml_Reader_172 [vI _] cf_Reader_isActive rfl rfl (c_Reader_isActive_26 d _ _ _ _ e20) (Nat.le_of_ble_eq_true rfl) ?_
        have h21 : ir r20 := by
          by_cases q : ir r20
          · exact q
          · rw [if_neg q] at hf; cases hf
        rw [if_pos h21] at hf
        by_cases h22 : r20 = 0
        · rw [if_pos h22] at hf
          refine Rt.path ok_Reader_declareVariable 1 [1] rfl ⟨⟨h21, h22⟩, trivial⟩ ?_
          cases hf
          refine Rt.path ok_Reader_declareVariable 16 [] rfl trivial ?_
          exact Rt.retI ok_Reader_declareVariable rfl rfl
        · rw [if_neg h22] at hf
          refine Rt.path ok_Reader_declareVariable 1 [0] rfl ⟨⟨h21, h22⟩, trivial⟩ ?_
          cases hf
          refine Rt.path ok_Reader_declareVariable 1 [] rfl trivial ?_
          exact Rt.retI ok_Reader_declareVariable rfl rfl
      · rw [if_neg h19] at hf
        refine Rt.path ok_Reader_declareVariable 7 [1] rfl ⟨(ix_60 h17), ⟨⟨h18, (show ir 1 by decide)⟩, h19⟩, trivial⟩ ?_
        cases hf
        refine Rt.path ok_Reader_declareVariable 1 [] rfl trivial ?_
        exact Rt.retI ok_Reader_declareVariable rfl rfl
def f_Reader_meaningOf_26 (a1 : Int) (g : G2) : Option (Int × G2) :=
  if ir a1 then
  if a1 = (-1) then
    some ((-1), g)
  else
    if 0 ≤ a1 ∧ a1 < 60 then
    if ir (rA g 5 a1) then
    if (rA g 5 a1) = 0 then
      some (0, g)
    else
      bd (f_Reader_isActive_26 a1 g) fun r6 g6 =>
      if ir r6 then
      if r6 = 0 then
        some ((-1), g6)
      else
        some (1, g6)
      else none
    else none
    else none
  else none
set_option maxHeartbeats 4000000 in
set_option maxRecDepth 100000 in
theorem c_Reader_meaningOf_26 (d : Nat) (a1 : Int) (g : G2) (r : Int) (g' : G2) (hf : f_Reader_meaningOf_26 a1 g = some (r, g')) : C2 (d + 1) m_Reader_meaningOf [vR 26, vI a1] g (some (vI r)) g' := by
  unfold f_Reader_meaningOf_26 at hf
  refine C2.of rfl rfl rfl (Nat.le_of_ble_eq_true rfl) ?_
  have h1 : ir a1 := by
    by_cases q : ir a1
    · exact q
    · rw [if_neg q] at hf; cases hf
  rw [if_pos h1] at hf
  by_cases h2 : a1 = (-1)
  · rw [if_pos h2] at hf
    refine Rt.path ok_Reader_meaningOf 3 [0] rfl ⟨⟨⟨h1, (show ir (-1) by decide)⟩, h2⟩, trivial⟩ ?_
    cases hf
    refine Rt.path ok_Reader_meaningOf 1 [] rfl trivial ?_
    exact Rt.retI ok_Reader_meaningOf rfl rfl
  · rw [if_neg h2] at hf
    refine Rt.path ok_Reader_meaningOf 3 [1] rfl ⟨⟨⟨h1, (show ir (-1) by decide)⟩, h2⟩, trivial⟩ ?_
    have h3 : 0 ≤ a1 ∧ a1 < 60 := by
      by_cases q : 0 ≤ a1 ∧ a1 < 60
      · exact q
      · rw [if_neg q] at hf; cases hf
    rw [if_pos h3] at hf
    have h4 : ir (rA g 5 a1) := by
      by_cases q : ir (rA g 5 a1)
      · exact q
      · rw [if_neg q] at hf; cases hf
    rw [if_pos h4] at hf
    by_cases h5 : (rA g 5 a1) = 0
    · rw [if_pos h5] at hf
      refine Rt.path ok_Reader_meaningOf 6 [0] rfl ⟨(ix_60 h3), ⟨h4, h5⟩, trivial⟩ ?_
      cases hf
      refine Rt.path ok_Reader_meaningOf 1 [] rfl trivial ?_
      exact Rt.retI ok_Reader_meaningOf rfl rfl
    · rw [if_neg h5] at hf
      refine Rt.path ok_Reader_meaningOf 6 [1] rfl ⟨(ix_60 h3), ⟨h4, h5⟩, trivial⟩ ?_
      obtain ⟨r6, g6, e6, hf⟩ := bd_inv hf
      refine Rt.path ok_Reader_meaningOf 2 [] rfl trivial ?_
      refine Rt.callV ok_Reader_meaningOf rfl ml_Reader_172 [vI _] cf_Reader_isActive rfl rfl (c_Reader_isActive_26 d _ _ _ _ e6) (Nat.le_of_ble_eq_true rfl) ?_
      have h7 : ir r6 := by
        by_cases q : ir r6
        · exact q
        · rw [if_neg q] at hf; cases hf
      rw [if_pos h7] at hf
      by_cases h8 : r6 = 0
      · rw [if_pos h8] at hf
        refine Rt.path ok_Reader_meaningOf 1 [1] rfl ⟨⟨h7, h8⟩, trivial⟩ ?_
        cases hf
        refine Rt.path ok_Reader_meaningOf 1 [] rfl trivial ?_
        exact Rt.retI ok_Reader_meaningOf rfl rfl
      · rw [if_neg h8] at hf
        refine Rt.path ok_Reader_meaningOf 1 [0] rfl ⟨⟨h7, h8⟩, trivial⟩ ?_
        cases hf
        refine Rt.path ok_Reader_meaningOf 2 [] rfl trivial ?_
        exact Rt.retI ok_Reader_meaningOf rfl rfl
def b_Reader_takeApart_26_0 (L : Nat → Int → Int → G2 → Option (Int × G2)) (i1 : Int) (i3 : Int) (g : G2) : Option (Int × G2) :=
  if ir i3 then
  if ir (rI g 3 3) then
  if i3 < (rI g 3 3) then
    if ((am_ushr (rJ g 25 8) i3) &&& (Int64.ofNat 1)) = (Int64.ofNat 0) then
      L 0 i1 (i3 + 1) g
    else
      (f_Context_addPair_27 i3 i1 g).bind fun g12 =>
      L 0 i1 (i3 + 1) g12
  else
    some (0, (gI (gJ g 25 8 ((rJ g 25 8) ||| (am_shl (Int64.ofNat 1) i1))) 25 7 ((rI g 25 7) + 1)))
  else none
  else none
def l_Reader_takeApart_26 : Nat → Nat → Int → Int → G2 → Option (Int × G2)
  | 0 => fun _ _ _ _ => none
  | n + 1 => fun t i1 i3 g => match t with
    | _ => b_Reader_takeApart_26_0 (l_Reader_takeApart_26 n) i1 i3 g
set_option maxHeartbeats 4000000 in
set_option maxRecDepth 100000 in
theorem rl_Reader_takeApart_26 (d : Nat) : ∀ (n : Nat) (i1 : Int) (i3 : Int) (g : G2) (r : Int) (g' : G2), (l_Reader_takeApart_26 n 0 i1 i3 g = some (r, g') → Rt (d + 2) m_Reader_takeApart 62 [some (vR 26), some (vI i1), none, some (vI i3)] [] g (some (vI r)) g') := by
  intro n
  induction n with
  | zero => intro i1 i3 g r g'; exact fun hf => by cases hf
  | succ n ih =>
    intro i1 i3 g r g'
    intro hf
    replace hf : b_Reader_takeApart_26_0 (l_Reader_takeApart_26 n) i1 i3 g = some (r, g') := hf
    unfold b_Reader_takeApart_26_0 at hf
    have h8 : ir i3 := by
      by_cases q : ir i3
      · exact q
      · rw [if_neg q] at hf; cases hf
    rw [if_pos h8] at hf
    have h9 : ir (rI g 3 3) := by
      by_cases q : ir (rI g 3 3)
      · exact q
      · rw [if_neg q] at hf; cases hf
    rw [if_pos h9] at hf
    by_cases h10 : i3 < (rI g 3 3)
    · rw [if_pos h10] at hf
      refine Rt.path ok_Reader_takeApart 5 [0] rfl ⟨⟨⟨h8, h9⟩, h10⟩, trivial⟩ ?_
      by_cases h11 : ((am_ushr (rJ g 25 8) i3) &&& (Int64.ofNat 1)) = (Int64.ofNat 0)
      · rw [if_pos h11] at hf
        refine Rt.path ok_Reader_takeApart 9 [1] rfl ⟨⟨(am_cmpIn _ _), (am_cmp0.mpr h11)⟩, trivial⟩ ?_
        refine Rt.path ok_Reader_takeApart 2 [] rfl trivial ?_
        exact Rt.weak ((ih _ _ _ _ _) hf) ⟨rfl, rfl, rfl, trivial⟩
      · rw [if_neg h11] at hf
        refine Rt.path ok_Reader_takeApart 9 [0] rfl ⟨⟨(am_cmpIn _ _), (fun q => h11 (am_cmp0.mp q))⟩, trivial⟩ ?_
        obtain ⟨g12, e12, hf⟩ := Option.bind_eq_some_iff.mp hf
        refine Rt.path ok_Reader_takeApart 4 [] rfl trivial ?_
        refine Rt.callV ok_Reader_takeApart rfl ml_Reader_189 [vI _, vI _] cf_Context_addPair rfl rfl (c_Context_addPair_27 d _ _ _ _ e12) (Nat.le_of_ble_eq_true rfl) ?_
        refine Rt.path ok_Reader_takeApart 2 [] rfl trivial ?_
        exact Rt.weak ((ih _ _ _ _ _) hf) ⟨rfl, rfl, rfl, trivial⟩
    · rw [if_neg h10] at hf
      refine Rt.path ok_Reader_takeApart 5 [1] rfl ⟨⟨⟨h8, h9⟩, (Int.not_lt.mp h10)⟩, trivial⟩ ?_
      cases hf
      refine Rt.path ok_Reader_takeApart 15 [] rfl trivial ?_
      exact Rt.retI ok_Reader_takeApart rfl rfl
def f_Reader_takeApart_26 (a1 : Int) (g : G2) : Option (Int × G2) :=
  bd (f_Reader_meaningOf_26 a1 g) fun r1 g1 =>
  if ir r1 then
  if r1 = 1 then
    if ((am_ushr (rJ g1 25 8) a1) &&& (Int64.ofNat 1)) = (Int64.ofNat 0) then
      if ir ((rI g1 26 4) + (rI g1 25 7)) then
      if 40 < ((rI g1 26 4) + (rI g1 25 7)) then
        some ((-7), g1)
      else
        l_Reader_takeApart_26 20000 0 a1 0 g1
      else none
    else
      some ((-4), g1)
  else
    if r1 = (-1) then
      some ((-4), g1)
    else
      some ((-6), g1)
  else none
set_option maxHeartbeats 4000000 in
set_option maxRecDepth 100000 in
theorem c_Reader_takeApart_26 (d : Nat) (a1 : Int) (g : G2) (r : Int) (g' : G2) (hf : f_Reader_takeApart_26 a1 g = some (r, g')) : C2 (d + 2) m_Reader_takeApart [vR 26, vI a1] g (some (vI r)) g' := by
  unfold f_Reader_takeApart_26 at hf
  refine C2.of rfl rfl rfl (Nat.le_of_ble_eq_true rfl) ?_
  obtain ⟨r1, g1, e1, hf⟩ := bd_inv hf
  refine Rt.path ok_Reader_takeApart 2 [] rfl trivial ?_
  refine Rt.callV ok_Reader_takeApart rfl ml_Reader_182 [vI _] cf_Reader_meaningOf rfl rfl (c_Reader_meaningOf_26 d _ _ _ _ e1) (Nat.le_of_ble_eq_true rfl) ?_
  have h2 : ir r1 := by
    by_cases q : ir r1
    · exact q
    · rw [if_neg q] at hf; cases hf
  rw [if_pos h2] at hf
  by_cases h3 : r1 = 1
  · rw [if_pos h3] at hf
    refine Rt.path ok_Reader_takeApart 4 [1] rfl ⟨⟨⟨h2, (show ir 1 by decide)⟩, h3⟩, trivial⟩ ?_
    by_cases h4 : ((am_ushr (rJ g1 25 8) a1) &&& (Int64.ofNat 1)) = (Int64.ofNat 0)
    · rw [if_pos h4] at hf
      refine Rt.path ok_Reader_takeApart 9 [1] rfl ⟨⟨(am_cmpIn _ _), (am_cmp0.mpr h4)⟩, trivial⟩ ?_
      have h5 : ir ((rI g1 26 4) + (rI g1 25 7)) := by
        by_cases q : ir ((rI g1 26 4) + (rI g1 25 7))
        · exact q
        · rw [if_neg q] at hf; cases hf
      rw [if_pos h5] at hf
      by_cases h6 : 40 < ((rI g1 26 4) + (rI g1 25 7))
      · rw [if_pos h6] at hf
        refine Rt.path ok_Reader_takeApart 8 [0] rfl ⟨⟨⟨h5, (show ir 40 by decide)⟩, h6⟩, trivial⟩ ?_
        cases hf
        refine Rt.path ok_Reader_takeApart 1 [] rfl trivial ?_
        exact Rt.retI ok_Reader_takeApart rfl rfl
      · rw [if_neg h6] at hf
        refine Rt.path ok_Reader_takeApart 8 [1] rfl ⟨⟨⟨h5, (show ir 40 by decide)⟩, (Int.not_lt.mp h6)⟩, trivial⟩ ?_
        refine Rt.path ok_Reader_takeApart 2 [] rfl trivial ?_
        exact Rt.weak ((rl_Reader_takeApart_26 d _ _ _ _ _ _) hf) ⟨rfl, rfl, rfl, trivial⟩
    · rw [if_neg h4] at hf
      refine Rt.path ok_Reader_takeApart 9 [0] rfl ⟨⟨(am_cmpIn _ _), (fun q => h4 (am_cmp0.mp q))⟩, trivial⟩ ?_
      cases hf
      refine Rt.path ok_Reader_takeApart 1 [] rfl trivial ?_
      exact Rt.retI ok_Reader_takeApart rfl rfl
  · rw [if_neg h3] at hf
    refine Rt.path ok_Reader_takeApart 4 [0] rfl ⟨⟨⟨h2, (show ir 1 by decide)⟩, h3⟩, trivial⟩ ?_
    by_cases h7 : r1 = (-1)
    · rw [if_pos h7] at hf
      refine Rt.path ok_Reader_takeApart 3 [0] rfl ⟨⟨⟨h2, (show ir (-1) by decide)⟩, h7⟩, trivial⟩ ?_
      cases hf
      refine Rt.path ok_Reader_takeApart 2 [] rfl trivial ?_
      exact Rt.retI ok_Reader_takeApart rfl rfl
    · rw [if_neg h7] at hf
      refine Rt.path ok_Reader_takeApart 3 [1] rfl ⟨⟨⟨h2, (show ir (-1) by decide)⟩, h7⟩, trivial⟩ ?_
      cases hf
      refine Rt.path ok_Reader_takeApart 1 [] rfl trivial ?_
      exact Rt.retI ok_Reader_takeApart rfl rfl
def f_Expressions_append_11 (a1 : Int) (a2 : Int) (g : G2) : Option (G2) :=
  if 0 ≤ (rI g 10 4) ∧ (rI g 10 4) < 40 then
  if 0 ≤ (((rI g 10 4) * 24) + (rA g 12 (rI g 10 4))) ∧ (((rI g 10 4) * 24) + (rA g 12 (rI g 10 4))) < 960 then
  if ir a2 then
  if a2 = 0 then
    some (gA (gA g 11 (((rI g 10 4) * 24) + (rA g 12 (rI g 10 4))) a1) 12 (rI g 10 4) ((rA g 12 (rI g 10 4)) + 1))
  else
    some (gB (gA (gA g 11 (((rI g 10 4) * 24) + (rA g 12 (rI g 10 4))) a1) 12 (rI g 10 4) ((rA g 12 (rI g 10 4)) + 1)) 13 (rI g 10 4) ((rB g 13 (rI g 10 4)) ||| (am_shl (Int64.ofNat 1) a1)))
  else none
  else none
  else none
set_option maxHeartbeats 4000000 in
set_option maxRecDepth 100000 in
theorem c_Expressions_append_11 (d : Nat) (a1 : Int) (a2 : Int) (g : G2) (g' : G2) (hf : f_Expressions_append_11 a1 a2 g = some g') : C2 d m_Expressions_append [vR 11, vI a1, vI a2] g none g' := by
  unfold f_Expressions_append_11 at hf
  refine C2.of rfl rfl rfl (Nat.le_of_ble_eq_true rfl) ?_
  have h1 : 0 ≤ (rI g 10 4) ∧ (rI g 10 4) < 40 := by
    by_cases q : 0 ≤ (rI g 10 4) ∧ (rI g 10 4) < 40
    · exact q
    · rw [if_neg q] at hf; cases hf
  rw [if_pos h1] at hf
  have h2 : 0 ≤ (((rI g 10 4) * 24) + (rA g 12 (rI g 10 4))) ∧ (((rI g 10 4) * 24) + (rA g 12 (rI g 10 4))) < 960 := by
    by_cases q : 0 ≤ (((rI g 10 4) * 24) + (rA g 12 (rI g 10 4))) ∧ (((rI g 10 4) * 24) + (rA g 12 (rI g 10 4))) < 960
    · exact q
    · rw [if_neg q] at hf; cases hf
  rw [if_pos h2] at hf
  have h3 : ir a2 := by
    by_cases q : ir a2
    · exact q
    · rw [if_neg q] at hf; cases hf
  rw [if_pos h3] at hf
  by_cases h4 : a2 = 0
  · rw [if_pos h4] at hf
    refine Rt.path ok_Expressions_append 25 [1] rfl ⟨(ix_40 h1), (ix_960 h2), (ix_40 h1), (ix_40 h1), ⟨h3, h4⟩, trivial⟩ ?_
    cases hf
    exact Rt.retV ok_Expressions_append rfl rfl
  · rw [if_neg h4] at hf
    refine Rt.path ok_Expressions_append 25 [0] rfl ⟨(ix_40 h1), (ix_960 h2), (ix_40 h1), (ix_40 h1), ⟨h3, h4⟩, trivial⟩ ?_
    cases hf
    refine Rt.path ok_Expressions_append 11 [] rfl ⟨(ix_40 h1), (ix_40 h1), trivial⟩ ?_
    exact Rt.retV ok_Expressions_append rfl rfl
def f_Reader_takeType_26 (a1 : Int) (g : G2) : Option (Int × G2) :=
  bd (f_Reader_meaningOf_26 a1 g) fun r1 g1 =>
  if ir r1 then
  if r1 = 0 then
    (f_Expressions_append_11 a1 0 g1).bind fun g4 =>
    if ir (rI g4 25 6) then
    if (rI g4 25 6) = 5 then
      some (0, (gI g4 25 6 6))
    else
      some (0, (gI g4 25 6 9))
    else none
  else
    if r1 = (-1) then
      some ((-4), g1)
    else
      some ((-6), g1)
  else none
set_option maxHeartbeats 4000000 in
set_option maxRecDepth 100000 in
theorem c_Reader_takeType_26 (d : Nat) (a1 : Int) (g : G2) (r : Int) (g' : G2) (hf : f_Reader_takeType_26 a1 g = some (r, g')) : C2 (d + 2) m_Reader_takeType [vR 26, vI a1] g (some (vI r)) g' := by
  unfold f_Reader_takeType_26 at hf
  refine C2.of rfl rfl rfl (Nat.le_of_ble_eq_true rfl) ?_
  obtain ⟨r1, g1, e1, hf⟩ := bd_inv hf
  refine Rt.path ok_Reader_takeType 2 [] rfl trivial ?_
  refine Rt.callV ok_Reader_takeType rfl ml_Reader_182 [vI _] cf_Reader_meaningOf rfl rfl (c_Reader_meaningOf_26 d _ _ _ _ e1) (Nat.le_of_ble_eq_true rfl) ?_
  have h2 : ir r1 := by
    by_cases q : ir r1
    · exact q
    · rw [if_neg q] at hf; cases hf
  rw [if_pos h2] at hf
  by_cases h3 : r1 = 0
  · rw [if_pos h3] at hf
    refine Rt.path ok_Reader_takeType 3 [1] rfl ⟨⟨h2, h3⟩, trivial⟩ ?_
    obtain ⟨g4, e4, hf⟩ := Option.bind_eq_some_iff.mp hf
    refine Rt.path ok_Reader_takeType 5 [] rfl trivial ?_
    refine Rt.callV ok_Reader_takeType rfl ml_Reader_201 [vI _, vI _] cf_Expressions_append rfl rfl (c_Expressions_append_11 (d + 1) _ _ _ _ e4) (Nat.le_of_ble_eq_true rfl) ?_
    have h5 : ir (rI g4 25 6) := by
      by_cases q : ir (rI g4 25 6)
      · exact q
      · rw [if_neg q] at hf; cases hf
    rw [if_pos h5] at hf
    by_cases h6 : (rI g4 25 6) = 5
    · rw [if_pos h6] at hf
      refine Rt.path ok_Reader_takeType 5 [0] rfl ⟨⟨⟨h5, (show ir 5 by decide)⟩, h6⟩, trivial⟩ ?_
      cases hf
      refine Rt.path ok_Reader_takeType 4 [] rfl trivial ?_
      exact Rt.retI ok_Reader_takeType rfl rfl
    · rw [if_neg h6] at hf
      refine Rt.path ok_Reader_takeType 5 [1] rfl ⟨⟨⟨h5, (show ir 5 by decide)⟩, h6⟩, trivial⟩ ?_
      cases hf
      refine Rt.path ok_Reader_takeType 3 [] rfl trivial ?_
      exact Rt.retI ok_Reader_takeType rfl rfl
  · rw [if_neg h3] at hf
    refine Rt.path ok_Reader_takeType 3 [0] rfl ⟨⟨h2, h3⟩, trivial⟩ ?_
    by_cases h7 : r1 = (-1)
    · rw [if_pos h7] at hf
      refine Rt.path ok_Reader_takeType 3 [0] rfl ⟨⟨⟨h2, (show ir (-1) by decide)⟩, h7⟩, trivial⟩ ?_
      cases hf
      refine Rt.path ok_Reader_takeType 2 [] rfl trivial ?_
      exact Rt.retI ok_Reader_takeType rfl rfl
    · rw [if_neg h7] at hf
      refine Rt.path ok_Reader_takeType 3 [1] rfl ⟨⟨⟨h2, (show ir (-1) by decide)⟩, h7⟩, trivial⟩ ?_
      cases hf
      refine Rt.path ok_Reader_takeType 1 [] rfl trivial ?_
      exact Rt.retI ok_Reader_takeType rfl rfl
def f_Reader_isTyped_26 (a1 : Int) (g : G2) : Option (Int × G2) :=
  if ((am_ushr (rJ g 26 1) a1) &&& (Int64.ofNat 1)) = (Int64.ofNat 0) then
    some (0, g)
  else
    some (1, g)
set_option maxHeartbeats 4000000 in
set_option maxRecDepth 100000 in
theorem c_Reader_isTyped_26 (d : Nat) (a1 : Int) (g : G2) (r : Int) (g' : G2) (hf : f_Reader_isTyped_26 a1 g = some (r, g')) : C2 d m_Reader_isTyped [vR 26, vI a1] g (some (vI r)) g' := by
  unfold f_Reader_isTyped_26 at hf
  refine C2.of rfl rfl rfl (Nat.le_of_ble_eq_true rfl) ?_
  by_cases h1 : ((am_ushr (rJ g 26 1) a1) &&& (Int64.ofNat 1)) = (Int64.ofNat 0)
  · rw [if_pos h1] at hf
    refine Rt.path ok_Reader_isTyped 10 [1] rfl ⟨⟨(am_cmpIn _ _), (am_cmp0.mpr h1)⟩, trivial⟩ ?_
    cases hf
    refine Rt.path ok_Reader_isTyped 1 [] rfl trivial ?_
    exact Rt.retZ ok_Reader_isTyped (show (0 : Int) = 0 ∨ (0 : Int) = 1 by decide) rfl rfl
  · rw [if_neg h1] at hf
    refine Rt.path ok_Reader_isTyped 10 [0] rfl ⟨⟨(am_cmpIn _ _), (fun q => h1 (am_cmp0.mp q))⟩, trivial⟩ ?_
    cases hf
    refine Rt.path ok_Reader_isTyped 2 [] rfl trivial ?_
    exact Rt.retZ ok_Reader_isTyped (show (1 : Int) = 0 ∨ (1 : Int) = 1 by decide) rfl rfl
def f_Reader_takeFloating_26 (a1 : Int) (g : G2) : Option (Int × G2) :=
  bd (f_Reader_meaningOf_26 a1 g) fun r1 g1 =>
  if ir r1 then
  if r1 = 1 then
    bd (f_Reader_isTyped_26 a1 g1) fun r4 g4 =>
    if ir r4 then
    if r4 = 0 then
      (f_Expressions_append_11 a1 1 g4).bind fun g7 =>
      some (0, (gI g7 25 6 7))
    else
      some ((-4), g4)
    else none
  else
    if r1 = (-1) then
      some ((-4), g1)
    else
      some ((-6), g1)
  else none
set_option maxHeartbeats 4000000 in
set_option maxRecDepth 100000 in
theorem c_Reader_takeFloating_26 (d : Nat) (a1 : Int) (g : G2) (r : Int) (g' : G2) (hf : f_Reader_takeFloating_26 a1 g = some (r, g')) : C2 (d + 2) m_Reader_takeFloating [vR 26, vI a1] g (some (vI r)) g' := by
  unfold f_Reader_takeFloating_26 at hf
  refine C2.of rfl rfl rfl (Nat.le_of_ble_eq_true rfl) ?_
  obtain ⟨r1, g1, e1, hf⟩ := bd_inv hf
  refine Rt.path ok_Reader_takeFloating 2 [] rfl trivial ?_
  refine Rt.callV ok_Reader_takeFloating rfl ml_Reader_182 [vI _] cf_Reader_meaningOf rfl rfl (c_Reader_meaningOf_26 d _ _ _ _ e1) (Nat.le_of_ble_eq_true rfl) ?_
  have h2 : ir r1 := by
    by_cases q : ir r1
    · exact q
    · rw [if_neg q] at hf; cases hf
  rw [if_pos h2] at hf
  by_cases h3 : r1 = 1
  · rw [if_pos h3] at hf
    refine Rt.path ok_Reader_takeFloating 4 [1] rfl ⟨⟨⟨h2, (show ir 1 by decide)⟩, h3⟩, trivial⟩ ?_
    obtain ⟨r4, g4, e4, hf⟩ := bd_inv hf
    refine Rt.path ok_Reader_takeFloating 2 [] rfl trivial ?_
    refine Rt.callV ok_Reader_takeFloating rfl ml_Reader_205 [vI _] cf_Reader_isTyped rfl rfl (c_Reader_isTyped_26 (d + 1) _ _ _ _ e4) (Nat.le_of_ble_eq_true rfl) ?_
    have h5 : ir r4 := by
      by_cases q : ir r4
      · exact q
      · rw [if_neg q] at hf; cases hf
    rw [if_pos h5] at hf
    by_cases h6 : r4 = 0
    · rw [if_pos h6] at hf
      refine Rt.path ok_Reader_takeFloating 1 [1] rfl ⟨⟨h5, h6⟩, trivial⟩ ?_
      obtain ⟨g7, e7, hf⟩ := Option.bind_eq_some_iff.mp hf
      refine Rt.path ok_Reader_takeFloating 5 [] rfl trivial ?_
      refine Rt.callV ok_Reader_takeFloating rfl ml_Reader_201 [vI _, vI _] cf_Expressions_append rfl rfl (c_Expressions_append_11 (d + 1) _ _ _ _ e7) (Nat.le_of_ble_eq_true rfl) ?_
      cases hf
      refine Rt.path ok_Reader_takeFloating 4 [] rfl trivial ?_
      exact Rt.retI ok_Reader_takeFloating rfl rfl
    · rw [if_neg h6] at hf
      refine Rt.path ok_Reader_takeFloating 1 [0] rfl ⟨⟨h5, h6⟩, trivial⟩ ?_
      cases hf
      refine Rt.path ok_Reader_takeFloating 1 [] rfl trivial ?_
      exact Rt.retI ok_Reader_takeFloating rfl rfl
  · rw [if_neg h3] at hf
    refine Rt.path ok_Reader_takeFloating 4 [0] rfl ⟨⟨⟨h2, (show ir 1 by decide)⟩, h3⟩, trivial⟩ ?_
    by_cases h8 : r1 = (-1)
    · rw [if_pos h8] at hf
      refine Rt.path ok_Reader_takeFloating 3 [0] rfl ⟨⟨⟨h2, (show ir (-1) by decide)⟩, h8⟩, trivial⟩ ?_
      cases hf
      refine Rt.path ok_Reader_takeFloating 2 [] rfl trivial ?_
      exact Rt.retI ok_Reader_takeFloating rfl rfl
    · rw [if_neg h8] at hf
      refine Rt.path ok_Reader_takeFloating 3 [1] rfl ⟨⟨⟨h2, (show ir (-1) by decide)⟩, h8⟩, trivial⟩ ?_
      cases hf
      refine Rt.path ok_Reader_takeFloating 1 [] rfl trivial ?_
      exact Rt.retI ok_Reader_takeFloating rfl rfl
def f_Expressions_rowHasRoom_11 (a1 : Int) (g : G2) : Option (Int × G2) :=
  if 0 ≤ (rI g 10 4) ∧ (rI g 10 4) < 40 then
  if ir ((rA g 12 (rI g 10 4)) + a1) then
  if 24 < ((rA g 12 (rI g 10 4)) + a1) then
    some (0, g)
  else
    some (1, g)
  else none
  else none
set_option maxHeartbeats 4000000 in
set_option maxRecDepth 100000 in
theorem c_Expressions_rowHasRoom_11 (d : Nat) (a1 : Int) (g : G2) (r : Int) (g' : G2) (hf : f_Expressions_rowHasRoom_11 a1 g = some (r, g')) : C2 d m_Expressions_rowHasRoom [vR 11, vI a1] g (some (vI r)) g' := by
  unfold f_Expressions_rowHasRoom_11 at hf
  refine C2.of rfl rfl rfl (Nat.le_of_ble_eq_true rfl) ?_
  have h1 : 0 ≤ (rI g 10 4) ∧ (rI g 10 4) < 40 := by
    by_cases q : 0 ≤ (rI g 10 4) ∧ (rI g 10 4) < 40
    · exact q
    · rw [if_neg q] at hf; cases hf
  rw [if_pos h1] at hf
  have h2 : ir ((rA g 12 (rI g 10 4)) + a1) := by
    by_cases q : ir ((rA g 12 (rI g 10 4)) + a1)
    · exact q
    · rw [if_neg q] at hf; cases hf
  rw [if_pos h2] at hf
  by_cases h3 : 24 < ((rA g 12 (rI g 10 4)) + a1)
  · rw [if_pos h3] at hf
    refine Rt.path ok_Expressions_rowHasRoom 9 [1] rfl ⟨(ix_40 h1), ⟨⟨h2, (show ir 24 by decide)⟩, h3⟩, trivial⟩ ?_
    cases hf
    refine Rt.path ok_Expressions_rowHasRoom 1 [] rfl trivial ?_
    exact Rt.retZ ok_Expressions_rowHasRoom (show (0 : Int) = 0 ∨ (0 : Int) = 1 by decide) rfl rfl
  · rw [if_neg h3] at hf
    refine Rt.path ok_Expressions_rowHasRoom 9 [0] rfl ⟨(ix_40 h1), ⟨⟨h2, (show ir 24 by decide)⟩, (Int.not_lt.mp h3)⟩, trivial⟩ ?_
    cases hf
    refine Rt.path ok_Expressions_rowHasRoom 2 [] rfl trivial ?_
    exact Rt.retZ ok_Expressions_rowHasRoom (show (1 : Int) = 0 ∨ (1 : Int) = 1 by decide) rfl rfl
def f_Reader_takeSymbol_26 (a1 : Int) (g : G2) : Option (Int × G2) :=
  bd (f_Reader_meaningOf_26 a1 g) fun r1 g1 =>
  if ir r1 then
  if r1 = (-1) then
    some ((-4), g1)
  else
    if r1 = 1 then
      bd (f_Reader_isTyped_26 a1 g1) fun r5 g5 =>
      if ir r5 then
      if r5 = 0 then
        some ((-4), g5)
      else
        bd (f_Expressions_rowHasRoom_11 1 g5) fun r8 g8 =>
        if ir r8 then
        if r8 = 0 then
          some ((-7), g8)
        else
          if r1 = 1 then
            (f_Expressions_append_11 a1 1 g8).bind fun g12 =>
            some (0, g12)
          else
            (f_Expressions_append_11 a1 0 g8).bind fun g13 =>
            some (0, g13)
        else none
      else none
    else
      bd (f_Expressions_rowHasRoom_11 1 g1) fun r14 g14 =>
      if ir r14 then
      if r14 = 0 then
        some ((-7), g14)
      else
        if r1 = 1 then
          (f_Expressions_append_11 a1 1 g14).bind fun g18 =>
          some (0, g18)
        else
          (f_Expressions_append_11 a1 0 g14).bind fun g19 =>
          some (0, g19)
      else none
  else none
set_option maxHeartbeats 4000000 in
set_option maxRecDepth 100000 in
theorem c_Reader_takeSymbol_26 (d : Nat) (a1 : Int) (g : G2) (r : Int) (g' : G2) (hf : f_Reader_takeSymbol_26 a1 g = some (r, g')) : C2 (d + 2) m_Reader_takeSymbol [vR 26, vI a1] g (some (vI r)) g' := by
  unfold f_Reader_takeSymbol_26 at hf
  refine C2.of rfl rfl rfl (Nat.le_of_ble_eq_true rfl) ?_
  obtain ⟨r1, g1, e1, hf⟩ := bd_inv hf
  refine Rt.path ok_Reader_takeSymbol 2 [] rfl trivial ?_
  refine Rt.callV ok_Reader_takeSymbol rfl ml_Reader_182 [vI _] cf_Reader_meaningOf rfl rfl (c_Reader_meaningOf_26 d _ _ _ _ e1) (Nat.le_of_ble_eq_true rfl) ?_
  have h2 : ir r1 := by
    by_cases q : ir r1
    · exact q
    · rw [if_neg q] at hf; cases hf
  rw [if_pos h2] at hf
  by_cases h3 : r1 = (-1)
  · rw [if_pos h3] at hf
    refine Rt.path ok_Reader_takeSymbol 4 [1] rfl ⟨⟨⟨h2, (show ir (-1) by decide)⟩, h3⟩, trivial⟩ ?_
    cases hf
    refine Rt.path ok_Reader_takeSymbol 1 [] rfl trivial ?_
    exact Rt.retI ok_Reader_takeSymbol rfl rfl
  · rw [if_neg h3] at hf
    refine Rt.path ok_Reader_takeSymbol 4 [0] rfl ⟨⟨⟨h2, (show ir (-1) by decide)⟩, h3⟩, trivial⟩ ?_
    by_cases h4 : r1 = 1
    · rw [if_pos h4] at hf
      refine Rt.path ok_Reader_takeSymbol 3 [0] rfl ⟨⟨⟨h2, (show ir 1 by decide)⟩, h4⟩, trivial⟩ ?_
      obtain ⟨r5, g5, e5, hf⟩ := bd_inv hf
      refine Rt.path ok_Reader_takeSymbol 2 [] rfl trivial ?_
      refine Rt.callV ok_Reader_takeSymbol rfl ml_Reader_205 [vI _] cf_Reader_isTyped rfl rfl (c_Reader_isTyped_26 (d + 1) _ _ _ _ e5) (Nat.le_of_ble_eq_true rfl) ?_
      have h6 : ir r5 := by
        by_cases q : ir r5
        · exact q
        · rw [if_neg q] at hf; cases hf
      rw [if_pos h6] at hf
      by_cases h7 : r5 = 0
      · rw [if_pos h7] at hf
        refine Rt.path ok_Reader_takeSymbol 1 [0] rfl ⟨⟨h6, h7⟩, trivial⟩ ?_
        cases hf
        refine Rt.path ok_Reader_takeSymbol 1 [] rfl trivial ?_
        exact Rt.retI ok_Reader_takeSymbol rfl rfl
      · rw [if_neg h7] at hf
        refine Rt.path ok_Reader_takeSymbol 1 [1] rfl ⟨⟨h6, h7⟩, trivial⟩ ?_
        obtain ⟨r8, g8, e8, hf⟩ := bd_inv hf
        refine Rt.path ok_Reader_takeSymbol 4 [] rfl trivial ?_
        refine Rt.callV ok_Reader_takeSymbol rfl ml_Reader_208 [vI _] cf_Expressions_rowHasRoom rfl rfl (c_Expressions_rowHasRoom_11 (d + 1) _ _ _ _ e8) (Nat.le_of_ble_eq_true rfl) ?_
        have h9 : ir r8 := by
          by_cases q : ir r8
          · exact q
          · rw [if_neg q] at hf; cases hf
        rw [if_pos h9] at hf
        by_cases h10 : r8 = 0
        · rw [if_pos h10] at hf
          refine Rt.path ok_Reader_takeSymbol 1 [0] rfl ⟨⟨h9, h10⟩, trivial⟩ ?_
          cases hf
          refine Rt.path ok_Reader_takeSymbol 1 [] rfl trivial ?_
          exact Rt.retI ok_Reader_takeSymbol rfl rfl
        · rw [if_neg h10] at hf
          refine Rt.path ok_Reader_takeSymbol 1 [1] rfl ⟨⟨h9, h10⟩, trivial⟩ ?_
          by_cases h11 : r1 = 1
          · rw [if_pos h11] at hf
            refine Rt.path ok_Reader_takeSymbol 7 [0] rfl ⟨⟨⟨h2, (show ir 1 by decide)⟩, h11⟩, trivial⟩ ?_
            obtain ⟨g12, e12, hf⟩ := Option.bind_eq_some_iff.mp hf
            refine Rt.path ok_Reader_takeSymbol 2 [] rfl trivial ?_
            refine Rt.callV ok_Reader_takeSymbol rfl ml_Reader_201 [vI _, vI _] cf_Expressions_append rfl rfl (c_Expressions_append_11 (d + 1) _ _ _ _ e12) (Nat.le_of_ble_eq_true rfl) ?_
            cases hf
            refine Rt.path ok_Reader_takeSymbol 1 [] rfl trivial ?_
            exact Rt.retI ok_Reader_takeSymbol rfl rfl
          · rw [if_neg h11] at hf
            refine Rt.path ok_Reader_takeSymbol 7 [1] rfl ⟨⟨⟨h2, (show ir 1 by decide)⟩, h11⟩, trivial⟩ ?_
            obtain ⟨g13, e13, hf⟩ := Option.bind_eq_some_iff.mp hf
            refine Rt.path ok_Reader_takeSymbol 1 [] rfl trivial ?_
            refine Rt.callV ok_Reader_takeSymbol rfl ml_Reader_201 [vI _, vI _] cf_Expressions_append rfl rfl (c_Expressions_append_11 (d + 1) _ _ _ _ e13) (Nat.le_of_ble_eq_true rfl) ?_
            cases hf
            refine Rt.path ok_Reader_takeSymbol 1 [] rfl trivial ?_
            exact Rt.retI ok_Reader_takeSymbol rfl rfl
    · rw [if_neg h4] at hf
      refine Rt.path ok_Reader_takeSymbol 3 [1] rfl ⟨⟨⟨h2, (show ir 1 by decide)⟩, h4⟩, trivial⟩ ?_
      obtain ⟨r14, g14, e14, hf⟩ := bd_inv hf
      refine Rt.path ok_Reader_takeSymbol 4 [] rfl trivial ?_
      refine Rt.callV ok_Reader_takeSymbol rfl ml_Reader_208 [vI _] cf_Expressions_rowHasRoom rfl rfl (c_Expressions_rowHasRoom_11 (d + 1) _ _ _ _ e14) (Nat.le_of_ble_eq_true rfl) ?_
      have h15 : ir r14 := by
        by_cases q : ir r14
        · exact q
        · rw [if_neg q] at hf; cases hf
      rw [if_pos h15] at hf
      by_cases h16 : r14 = 0
      · rw [if_pos h16] at hf
        refine Rt.path ok_Reader_takeSymbol 1 [0] rfl ⟨⟨h15, h16⟩, trivial⟩ ?_
        cases hf
        refine Rt.path ok_Reader_takeSymbol 1 [] rfl trivial ?_
        exact Rt.retI ok_Reader_takeSymbol rfl rfl
      · rw [if_neg h16] at hf
        refine Rt.path ok_Reader_takeSymbol 1 [1] rfl ⟨⟨h15, h16⟩, trivial⟩ ?_
        by_cases h17 : r1 = 1
        · rw [if_pos h17] at hf
          refine Rt.path ok_Reader_takeSymbol 7 [0] rfl ⟨⟨⟨h2, (show ir 1 by decide)⟩, h17⟩, trivial⟩ ?_
          obtain ⟨g18, e18, hf⟩ := Option.bind_eq_some_iff.mp hf
          refine Rt.path ok_Reader_takeSymbol 2 [] rfl trivial ?_
          refine Rt.callV ok_Reader_takeSymbol rfl ml_Reader_201 [vI _, vI _] cf_Expressions_append rfl rfl (c_Expressions_append_11 (d + 1) _ _ _ _ e18) (Nat.le_of_ble_eq_true rfl) ?_
          cases hf
          refine Rt.path ok_Reader_takeSymbol 1 [] rfl trivial ?_
          exact Rt.retI ok_Reader_takeSymbol rfl rfl
        · rw [if_neg h17] at hf
          refine Rt.path ok_Reader_takeSymbol 7 [1] rfl ⟨⟨⟨h2, (show ir 1 by decide)⟩, h17⟩, trivial⟩ ?_
          obtain ⟨g19, e19, hf⟩ := Option.bind_eq_some_iff.mp hf
          refine Rt.path ok_Reader_takeSymbol 1 [] rfl trivial ?_
          refine Rt.callV ok_Reader_takeSymbol rfl ml_Reader_201 [vI _, vI _] cf_Expressions_append rfl rfl (c_Expressions_append_11 (d + 1) _ _ _ _ e19) (Nat.le_of_ble_eq_true rfl) ?_
          cases hf
          refine Rt.path ok_Reader_takeSymbol 1 [] rfl trivial ?_
          exact Rt.retI ok_Reader_takeSymbol rfl rfl
def f_Statements_isMandatory_8 (a1 : Int) (a2 : Int) (g : G2) : Option (Int × G2) :=
  if 0 ≤ a1 ∧ a1 < 40 then
  if ((am_ushr (rB g 14 a1) a2) &&& (Int64.ofNat 1)) = (Int64.ofNat 0) then
    some (0, g)
  else
    some (1, g)
  else none
set_option maxHeartbeats 4000000 in
set_option maxRecDepth 100000 in
theorem c_Statements_isMandatory_8 (d : Nat) (a1 : Int) (a2 : Int) (g : G2) (r : Int) (g' : G2) (hf : f_Statements_isMandatory_8 a1 a2 g = some (r, g')) : C2 d m_Statements_isMandatory [vR 8, vI a1, vI a2] g (some (vI r)) g' := by
  unfold f_Statements_isMandatory_8 at hf
  refine C2.of rfl rfl rfl (Nat.le_of_ble_eq_true rfl) ?_
  have h1 : 0 ≤ a1 ∧ a1 < 40 := by
    by_cases q : 0 ≤ a1 ∧ a1 < 40
    · exact q
    · rw [if_neg q] at hf; cases hf
  rw [if_pos h1] at hf
  by_cases h2 : ((am_ushr (rB g 14 a1) a2) &&& (Int64.ofNat 1)) = (Int64.ofNat 0)
  · rw [if_pos h2] at hf
    refine Rt.path ok_Statements_isMandatory 11 [1] rfl ⟨(ix_40 h1), ⟨(am_cmpIn _ _), (am_cmp0.mpr h2)⟩, trivial⟩ ?_
    cases hf
    refine Rt.path ok_Statements_isMandatory 1 [] rfl trivial ?_
    exact Rt.retZ ok_Statements_isMandatory (show (0 : Int) = 0 ∨ (0 : Int) = 1 by decide) rfl rfl
  · rw [if_neg h2] at hf
    refine Rt.path ok_Statements_isMandatory 11 [0] rfl ⟨(ix_40 h1), ⟨(am_cmpIn _ _), (fun q => h2 (am_cmp0.mp q))⟩, trivial⟩ ?_
    cases hf
    refine Rt.path ok_Statements_isMandatory 2 [] rfl trivial ?_
    exact Rt.retZ ok_Statements_isMandatory (show (1 : Int) = 0 ∨ (1 : Int) = 1 by decide) rfl rfl
def b_Letters_begin_44_0 (L : Nat → Int → Int → G2 → Option (G2)) (i1 : Int) (i2 : Int) (g : G2) : Option (G2) :=
  if ir i2 then
  if ir i1 then
  if i2 < i1 then
    bd (f_Statements_isMandatory_8 i1 i2 g) fun r4 g4 =>
    if ir r4 then
    if r4 = 0 then
      L 0 i1 (i2 + 1) g4
    else
      if 0 ≤ (rI g4 43 3) ∧ (rI g4 43 3) < 60 then
      L 0 i1 (i2 + 1) (gI (gA g4 44 (rI g4 43 3) i2) 43 3 ((rI g4 43 3) + 1))
      else none
    else none
  else
    some (gI (gI (gI (gI (gI g 43 4 0) 45 4 0) 43 6 0) 43 8 0) 43 9 0)
  else none
  else none
def l_Letters_begin_44 : Nat → Nat → Int → Int → G2 → Option (G2)
  | 0 => fun _ _ _ _ => none
  | n + 1 => fun t i1 i2 g => match t with
    | _ => b_Letters_begin_44_0 (l_Letters_begin_44 n) i1 i2 g
set_option maxHeartbeats 4000000 in
set_option maxRecDepth 100000 in
theorem rl_Letters_begin_44 (d : Nat) : ∀ (n : Nat) (i1 : Int) (i2 : Int) (g : G2) (g' : G2), (l_Letters_begin_44 n 0 i1 i2 g = some g' → Rt (d + 1) m_Letters_begin 7 [some (vR 44), some (vI i1), some (vI i2)] [] g none g') := by
  intro n
  induction n with
  | zero => intro i1 i2 g g'; exact fun hf => by cases hf
  | succ n ih =>
    intro i1 i2 g g'
    intro hf
    replace hf : b_Letters_begin_44_0 (l_Letters_begin_44 n) i1 i2 g = some g' := hf
    unfold b_Letters_begin_44_0 at hf
    have h1 : ir i2 := by
      by_cases q : ir i2
      · exact q
      · rw [if_neg q] at hf; cases hf
    rw [if_pos h1] at hf
    have h2 : ir i1 := by
      by_cases q : ir i1
      · exact q
      · rw [if_neg q] at hf; cases hf
    rw [if_pos h2] at hf
    by_cases h3 : i2 < i1
    · rw [if_pos h3] at hf
      refine Rt.path ok_Letters_begin 3 [0] rfl ⟨⟨⟨h1, h2⟩, h3⟩, trivial⟩ ?_
      obtain ⟨r4, g4, e4, hf⟩ := bd_inv hf
      refine Rt.path ok_Letters_begin 4 [] rfl trivial ?_
      refine Rt.callV ok_Letters_begin rfl ml_Letters_38 [vI _, vI _] cf_Statements_isMandatory rfl rfl (c_Statements_isMandatory_8 d _ _ _ _ _ e4) (Nat.le_of_ble_eq_true rfl) ?_
      have h5 : ir r4 := by
        by_cases q : ir r4
        · exact q
        · rw [if_neg q] at hf; cases hf
      rw [if_pos h5] at hf
      by_cases h6 : r4 = 0
      · rw [if_pos h6] at hf
        refine Rt.path ok_Letters_begin 1 [1] rfl ⟨⟨h5, h6⟩, trivial⟩ ?_
        refine Rt.path ok_Letters_begin 2 [] rfl trivial ?_
        exact Rt.weak ((ih _ _ _ _) hf) ⟨rfl, rfl, rfl, trivial⟩
      · rw [if_neg h6] at hf
        refine Rt.path ok_Letters_begin 1 [0] rfl ⟨⟨h5, h6⟩, trivial⟩ ?_
        have h7 : 0 ≤ (rI g4 43 3) ∧ (rI g4 43 3) < 60 := by
          by_cases q : 0 ≤ (rI g4 43 3) ∧ (rI g4 43 3) < 60
          · exact q
          · rw [if_neg q] at hf; cases hf
        rw [if_pos h7] at hf
        refine Rt.path ok_Letters_begin 14 [] rfl ⟨(ix_60 h7), trivial⟩ ?_
        exact Rt.weak ((ih _ _ _ _) hf) ⟨rfl, rfl, rfl, trivial⟩
    · rw [if_neg h3] at hf
      refine Rt.path ok_Letters_begin 3 [1] rfl ⟨⟨⟨h1, h2⟩, (Int.not_lt.mp h3)⟩, trivial⟩ ?_
      cases hf
      refine Rt.path ok_Letters_begin 16 [] rfl ⟨(show (0 : Int) = 0 ∨ (0 : Int) = 1 by decide), (show (0 : Int) = 0 ∨ (0 : Int) = 1 by decide), trivial⟩ ?_
      exact Rt.retV ok_Letters_begin rfl rfl
def f_Letters_begin_44 (a1 : Int) (g : G2) : Option (G2) :=
  l_Letters_begin_44 20000 0 a1 0 (gI g 43 3 0)
set_option maxHeartbeats 4000000 in
set_option maxRecDepth 100000 in
theorem c_Letters_begin_44 (d : Nat) (a1 : Int) (g : G2) (g' : G2) (hf : f_Letters_begin_44 a1 g = some g') : C2 (d + 1) m_Letters_begin [vR 44, vI a1] g none g' := by
  unfold f_Letters_begin_44 at hf
  refine C2.of rfl rfl rfl (Nat.le_of_ble_eq_true rfl) ?_
  refine Rt.path ok_Letters_begin 5 [] rfl trivial ?_
  exact Rt.weak ((rl_Letters_begin_44 d _ _ _ _ _) hf) ⟨rfl, rfl, rfl, trivial⟩
def f_Assertions_noteGap_17  (g : G2) : Option (G2) :=
  if 0 ≤ (rI g 16 8) ∧ (rI g 16 8) < 40 then
  some (gA (gA g 23 (rI g 16 8) 1) 24 (rI g 16 8) 0)
  else none
set_option maxHeartbeats 4000000 in
set_option maxRecDepth 100000 in
theorem c_Assertions_noteGap_17 (d : Nat)  (g : G2) (g' : G2) (hf : f_Assertions_noteGap_17 g = some g') : C2 d m_Assertions_noteGap [vR 17] g none g' := by
  unfold f_Assertions_noteGap_17 at hf
  refine C2.of rfl rfl rfl (Nat.le_of_ble_eq_true rfl) ?_
  have h1 : 0 ≤ (rI g 16 8) ∧ (rI g 16 8) < 40 := by
    by_cases q : 0 ≤ (rI g 16 8) ∧ (rI g 16 8) < 40
    · exact q
    · rw [if_neg q] at hf; cases hf
  rw [if_pos h1] at hf
  cases hf
  refine Rt.path ok_Assertions_noteGap 12 [] rfl ⟨⟨(ix_40 h1), (show (1 : Int) = 0 ∨ (1 : Int) = 1 by decide)⟩, ⟨(ix_40 h1), (show (0 : Int) = 0 ∨ (0 : Int) = 1 by decide)⟩, trivial⟩ ?_
  exact Rt.retV ok_Assertions_noteGap rfl rfl
def f_Proof_leaveGap_34  (g : G2) : Option (G2) :=
  (f_Assertions_noteGap_17 (gI g 33 7 1)).bind fun g1 =>
  some g1
set_option maxHeartbeats 4000000 in
set_option maxRecDepth 100000 in
theorem c_Proof_leaveGap_34 (d : Nat)  (g : G2) (g' : G2) (hf : f_Proof_leaveGap_34 g = some g') : C2 (d + 1) m_Proof_leaveGap [vR 34] g none g' := by
  unfold f_Proof_leaveGap_34 at hf
  refine C2.of rfl rfl rfl (Nat.le_of_ble_eq_true rfl) ?_
  obtain ⟨g1, e1, hf⟩ := Option.bind_eq_some_iff.mp hf
  refine Rt.path ok_Proof_leaveGap 5 [] rfl ⟨(show (1 : Int) = 0 ∨ (1 : Int) = 1 by decide), trivial⟩ ?_
  refine Rt.callV ok_Proof_leaveGap rfl ml_Proof_53 [] cf_Assertions_noteGap rfl rfl (c_Assertions_noteGap_17 d _ _ e1) (Nat.le_of_ble_eq_true rfl) ?_
  cases hf
  exact Rt.retV ok_Proof_leaveGap rfl rfl
def f_Statements_isHypothesis_8 (a1 : Int) (g : G2) : Option (Int × G2) :=
  if 0 ≤ a1 ∧ a1 < 40 then
  if ir (rA g 9 a1) then
  if (rA g 9 a1) = 0 then
    some (1, g)
  else
    if (rA g 9 a1) = 1 then
      some (1, g)
    else
      some (0, g)
  else none
  else none
set_option maxHeartbeats 4000000 in
set_option maxRecDepth 100000 in
theorem c_Statements_isHypothesis_8 (d : Nat) (a1 : Int) (g : G2) (r : Int) (g' : G2) (hf : f_Statements_isHypothesis_8 a1 g = some (r, g')) : C2 d m_Statements_isHypothesis [vR 8, vI a1] g (some (vI r)) g' := by
  unfold f_Statements_isHypothesis_8 at hf
  refine C2.of rfl rfl rfl (Nat.le_of_ble_eq_true rfl) ?_
  have h1 : 0 ≤ a1 ∧ a1 < 40 := by
    by_cases q : 0 ≤ a1 ∧ a1 < 40
    · exact q
    · rw [if_neg q] at hf; cases hf
  rw [if_pos h1] at hf
  have h2 : ir (rA g 9 a1) := by
    by_cases q : ir (rA g 9 a1)
    · exact q
    · rw [if_neg q] at hf; cases hf
  rw [if_pos h2] at hf
  by_cases h3 : (rA g 9 a1) = 0
  · rw [if_pos h3] at hf
    refine Rt.path ok_Statements_isHypothesis 5 [1] rfl ⟨(ix_40 h1), ⟨h2, h3⟩, trivial⟩ ?_
    cases hf
    refine Rt.path ok_Statements_isHypothesis 2 [] rfl trivial ?_
    exact Rt.retZ ok_Statements_isHypothesis (show (1 : Int) = 0 ∨ (1 : Int) = 1 by decide) rfl rfl
  · rw [if_neg h3] at hf
    refine Rt.path ok_Statements_isHypothesis 5 [0] rfl ⟨(ix_40 h1), ⟨h2, h3⟩, trivial⟩ ?_
    by_cases h4 : (rA g 9 a1) = 1
    · rw [if_pos h4] at hf
      refine Rt.path ok_Statements_isHypothesis 6 [0] rfl ⟨(ix_40 h1), ⟨⟨h2, (show ir 1 by decide)⟩, h4⟩, trivial⟩ ?_
      cases hf
      refine Rt.path ok_Statements_isHypothesis 2 [] rfl trivial ?_
      exact Rt.retZ ok_Statements_isHypothesis (show (1 : Int) = 0 ∨ (1 : Int) = 1 by decide) rfl rfl
    · rw [if_neg h4] at hf
      refine Rt.path ok_Statements_isHypothesis 6 [1] rfl ⟨(ix_40 h1), ⟨⟨h2, (show ir 1 by decide)⟩, h4⟩, trivial⟩ ?_
      cases hf
      refine Rt.path ok_Statements_isHypothesis 1 [] rfl trivial ?_
      exact Rt.retZ ok_Statements_isHypothesis (show (0 : Int) = 0 ∨ (0 : Int) = 1 by decide) rfl rfl
def f_Reader_isActiveHypothesis_26 (a1 : Int) (g : G2) : Option (Int × G2) :=
  if ((am_ushr (rJ g 26 2) a1) &&& (Int64.ofNat 1)) = (Int64.ofNat 0) then
    some (0, g)
  else
    some (1, g)
set_option maxHeartbeats 4000000 in
set_option maxRecDepth 100000 in
theorem c_Reader_isActiveHypothesis_26 (d : Nat) (a1 : Int) (g : G2) (r : Int) (g' : G2) (hf : f_Reader_isActiveHypothesis_26 a1 g = some (r, g')) : C2 d m_Reader_isActiveHypothesis [vR 26, vI a1] g (some (vI r)) g' := by
  unfold f_Reader_isActiveHypothesis_26 at hf
  refine C2.of rfl rfl rfl (Nat.le_of_ble_eq_true rfl) ?_
  by_cases h1 : ((am_ushr (rJ g 26 2) a1) &&& (Int64.ofNat 1)) = (Int64.ofNat 0)
  · rw [if_pos h1] at hf
    refine Rt.path ok_Reader_isActiveHypothesis 10 [1] rfl ⟨⟨(am_cmpIn _ _), (am_cmp0.mpr h1)⟩, trivial⟩ ?_
    cases hf
    refine Rt.path ok_Reader_isActiveHypothesis 1 [] rfl trivial ?_
    exact Rt.retZ ok_Reader_isActiveHypothesis (show (0 : Int) = 0 ∨ (0 : Int) = 1 by decide) rfl rfl
  · rw [if_neg h1] at hf
    refine Rt.path ok_Reader_isActiveHypothesis 10 [0] rfl ⟨⟨(am_cmpIn _ _), (fun q => h1 (am_cmp0.mp q))⟩, trivial⟩ ?_
    cases hf
    refine Rt.path ok_Reader_isActiveHypothesis 2 [] rfl trivial ?_
    exact Rt.retZ ok_Reader_isActiveHypothesis (show (1 : Int) = 0 ∨ (1 : Int) = 1 by decide) rfl rfl
def f_Reader_findUsable_26 (a1 : Int64) (g : G2) : Option (Int × G2) :=
  bd (f_Names_find_4 a1 g) fun r1 g1 =>
  if ir r1 then
  if r1 = (-1) then
    some ((-1), g1)
  else
    if 0 ≤ r1 ∧ r1 < 60 then
    if ir (rA g1 5 r1) then
    if (rA g1 5 r1) = 2 then
      bd (f_Statements_isHypothesis_8 (rA g1 6 r1) g1) fun r7 g7 =>
      if ir r7 then
      if r7 = 0 then
        some ((rA g1 6 r1), g7)
      else
        bd (f_Reader_isActiveHypothesis_26 (rA g1 6 r1) g7) fun r10 g10 =>
        if ir r10 then
        if r10 = 0 then
          some ((-1), g10)
        else
          some ((rA g1 6 r1), g10)
        else none
      else none
    else
      some ((-1), g1)
    else none
    else none
  else none
set_option maxHeartbeats 4000000 in
set_option maxRecDepth 100000 in
theorem c_Reader_findUsable_26 (d : Nat) (a1 : Int64) (g : G2) (r : Int) (g' : G2) (hf : f_Reader_findUsable_26 a1 g = some (r, g')) : C2 (d + 1) m_Reader_findUsable [vR 26, vL a1] g (some (vI r)) g' := by
  unfold f_Reader_findUsable_26 at hf
  refine C2.of rfl rfl rfl (Nat.le_of_ble_eq_true rfl) ?_
  obtain ⟨r1, g1, e1, hf⟩ := bd_inv hf
  refine Rt.path ok_Reader_findUsable 3 [] rfl trivial ?_
  refine Rt.callV ok_Reader_findUsable rfl ml_Reader_118 [vL _] cf_Names_find rfl rfl (c_Names_find_4 d _ _ _ _ e1) (Nat.le_of_ble_eq_true rfl) ?_
  have h2 : ir r1 := by
    by_cases q : ir r1
    · exact q
    · rw [if_neg q] at hf; cases hf
  rw [if_pos h2] at hf
  by_cases h3 : r1 = (-1)
  · rw [if_pos h3] at hf
    refine Rt.path ok_Reader_findUsable 4 [1] rfl ⟨⟨⟨h2, (show ir (-1) by decide)⟩, h3⟩, trivial⟩ ?_
    cases hf
    refine Rt.path ok_Reader_findUsable 1 [] rfl trivial ?_
    exact Rt.retI ok_Reader_findUsable rfl rfl
  · rw [if_neg h3] at hf
    refine Rt.path ok_Reader_findUsable 4 [0] rfl ⟨⟨⟨h2, (show ir (-1) by decide)⟩, h3⟩, trivial⟩ ?_
    have h4 : 0 ≤ r1 ∧ r1 < 60 := by
      by_cases q : 0 ≤ r1 ∧ r1 < 60
      · exact q
      · rw [if_neg q] at hf; cases hf
    rw [if_pos h4] at hf
    have h5 : ir (rA g1 5 r1) := by
      by_cases q : ir (rA g1 5 r1)
      · exact q
      · rw [if_neg q] at hf; cases hf
    rw [if_pos h5] at hf
    by_cases h6 : (rA g1 5 r1) = 2
    · rw [if_pos h6] at hf
      refine Rt.path ok_Reader_findUsable 7 [1] rfl ⟨(ix_60 h4), ⟨⟨h5, (show ir 2 by decide)⟩, h6⟩, trivial⟩ ?_
      obtain ⟨r7, g7, e7, hf⟩ := bd_inv hf
      refine Rt.path ok_Reader_findUsable 9 [] rfl ⟨(ix_60 h4), trivial⟩ ?_
      refine Rt.callV ok_Reader_findUsable rfl ml_Reader_211 [vI _] cf_Statements_isHypothesis rfl rfl (c_Statements_isHypothesis_8 d _ _ _ _ e7) (Nat.le_of_ble_eq_true rfl) ?_
      have h8 : ir r7 := by
        by_cases q : ir r7
        · exact q
        · rw [if_neg q] at hf; cases hf
      rw [if_pos h8] at hf
      by_cases h9 : r7 = 0
      · rw [if_pos h9] at hf
        refine Rt.path ok_Reader_findUsable 1 [1] rfl ⟨⟨h8, h9⟩, trivial⟩ ?_
        cases hf
        refine Rt.path ok_Reader_findUsable 1 [] rfl trivial ?_
        exact Rt.retI ok_Reader_findUsable rfl rfl
      · rw [if_neg h9] at hf
        refine Rt.path ok_Reader_findUsable 1 [0] rfl ⟨⟨h8, h9⟩, trivial⟩ ?_
        obtain ⟨r10, g10, e10, hf⟩ := bd_inv hf
        refine Rt.path ok_Reader_findUsable 2 [] rfl trivial ?_
        refine Rt.callV ok_Reader_findUsable rfl ml_Reader_233 [vI _] cf_Reader_isActiveHypothesis rfl rfl (c_Reader_isActiveHypothesis_26 d _ _ _ _ e10) (Nat.le_of_ble_eq_true rfl) ?_
        have h11 : ir r10 := by
          by_cases q : ir r10
          · exact q
          · rw [if_neg q] at hf; cases hf
        rw [if_pos h11] at hf
        by_cases h12 : r10 = 0
        · rw [if_pos h12] at hf
          refine Rt.path ok_Reader_findUsable 1 [0] rfl ⟨⟨h11, h12⟩, trivial⟩ ?_
          cases hf
          refine Rt.path ok_Reader_findUsable 2 [] rfl trivial ?_
          exact Rt.retI ok_Reader_findUsable rfl rfl
        · rw [if_neg h12] at hf
          refine Rt.path ok_Reader_findUsable 1 [1] rfl ⟨⟨h11, h12⟩, trivial⟩ ?_
          cases hf
          refine Rt.path ok_Reader_findUsable 1 [] rfl trivial ?_
          exact Rt.retI ok_Reader_findUsable rfl rfl
    · rw [if_neg h6] at hf
      refine Rt.path ok_Reader_findUsable 7 [0] rfl ⟨(ix_60 h4), ⟨⟨h5, (show ir 2 by decide)⟩, h6⟩, trivial⟩ ?_
      cases hf
      refine Rt.path ok_Reader_findUsable 1 [] rfl trivial ?_
      exact Rt.retI ok_Reader_findUsable rfl rfl
def f_J_bitCount (a0 : Int64) (g : G2) : Option (Int × G2) :=
  some ((am_and (am_l2i ((((((((a0 - ((am_ushr a0 1) &&& (Int64.ofNat 6148914691236517205))) &&& (Int64.ofNat 3689348814741910323)) + ((am_ushr (a0 - ((am_ushr a0 1) &&& (Int64.ofNat 6148914691236517205))) 2) &&& (Int64.ofNat 3689348814741910323))) + (am_ushr (((a0 - ((am_ushr a0 1) &&& (Int64.ofNat 6148914691236517205))) &&& (Int64.ofNat 3689348814741910323)) + ((am_ushr (a0 - ((am_ushr a0 1) &&& (Int64.ofNat 6148914691236517205))) 2) &&& (Int64.ofNat 3689348814741910323))) 4)) &&& (Int64.ofNat 1085102592571150095)) + (am_ushr (((((a0 - ((am_ushr a0 1) &&& (Int64.ofNat 6148914691236517205))) &&& (Int64.ofNat 3689348814741910323)) + ((am_ushr (a0 - ((am_ushr a0 1) &&& (Int64.ofNat 6148914691236517205))) 2) &&& (Int64.ofNat 3689348814741910323))) + (am_ushr (((a0 - ((am_ushr a0 1) &&& (Int64.ofNat 6148914691236517205))) &&& (Int64.ofNat 3689348814741910323)) + ((am_ushr (a0 - ((am_ushr a0 1) &&& (Int64.ofNat 6148914691236517205))) 2) &&& (Int64.ofNat 3689348814741910323))) 4)) &&& (Int64.ofNat 1085102592571150095)) 8)) + (am_ushr ((((((a0 - ((am_ushr a0 1) &&& (Int64.ofNat 6148914691236517205))) &&& (Int64.ofNat 3689348814741910323)) + ((am_ushr (a0 - ((am_ushr a0 1) &&& (Int64.ofNat 6148914691236517205))) 2) &&& (Int64.ofNat 3689348814741910323))) + (am_ushr (((a0 - ((am_ushr a0 1) &&& (Int64.ofNat 6148914691236517205))) &&& (Int64.ofNat 3689348814741910323)) + ((am_ushr (a0 - ((am_ushr a0 1) &&& (Int64.ofNat 6148914691236517205))) 2) &&& (Int64.ofNat 3689348814741910323))) 4)) &&& (Int64.ofNat 1085102592571150095)) + (am_ushr (((((a0 - ((am_ushr a0 1) &&& (Int64.ofNat 6148914691236517205))) &&& (Int64.ofNat 3689348814741910323)) + ((am_ushr (a0 - ((am_ushr a0 1) &&& (Int64.ofNat 6148914691236517205))) 2) &&& (Int64.ofNat 3689348814741910323))) + (am_ushr (((a0 - ((am_ushr a0 1) &&& (Int64.ofNat 6148914691236517205))) &&& (Int64.ofNat 3689348814741910323)) + ((am_ushr (a0 - ((am_ushr a0 1) &&& (Int64.ofNat 6148914691236517205))) 2) &&& (Int64.ofNat 3689348814741910323))) 4)) &&& (Int64.ofNat 1085102592571150095)) 8)) 16)) + (am_ushr (((((((a0 - ((am_ushr a0 1) &&& (Int64.ofNat 6148914691236517205))) &&& (Int64.ofNat 3689348814741910323)) + ((am_ushr (a0 - ((am_ushr a0 1) &&& (Int64.ofNat 6148914691236517205))) 2) &&& (Int64.ofNat 3689348814741910323))) + (am_ushr (((a0 - ((am_ushr a0 1) &&& (Int64.ofNat 6148914691236517205))) &&& (Int64.ofNat 3689348814741910323)) + ((am_ushr (a0 - ((am_ushr a0 1) &&& (Int64.ofNat 6148914691236517205))) 2) &&& (Int64.ofNat 3689348814741910323))) 4)) &&& (Int64.ofNat 1085102592571150095)) + (am_ushr (((((a0 - ((am_ushr a0 1) &&& (Int64.ofNat 6148914691236517205))) &&& (Int64.ofNat 3689348814741910323)) + ((am_ushr (a0 - ((am_ushr a0 1) &&& (Int64.ofNat 6148914691236517205))) 2) &&& (Int64.ofNat 3689348814741910323))) + (am_ushr (((a0 - ((am_ushr a0 1) &&& (Int64.ofNat 6148914691236517205))) &&& (Int64.ofNat 3689348814741910323)) + ((am_ushr (a0 - ((am_ushr a0 1) &&& (Int64.ofNat 6148914691236517205))) 2) &&& (Int64.ofNat 3689348814741910323))) 4)) &&& (Int64.ofNat 1085102592571150095)) 8)) + (am_ushr ((((((a0 - ((am_ushr a0 1) &&& (Int64.ofNat 6148914691236517205))) &&& (Int64.ofNat 3689348814741910323)) + ((am_ushr (a0 - ((am_ushr a0 1) &&& (Int64.ofNat 6148914691236517205))) 2) &&& (Int64.ofNat 3689348814741910323))) + (am_ushr (((a0 - ((am_ushr a0 1) &&& (Int64.ofNat 6148914691236517205))) &&& (Int64.ofNat 3689348814741910323)) + ((am_ushr (a0 - ((am_ushr a0 1) &&& (Int64.ofNat 6148914691236517205))) 2) &&& (Int64.ofNat 3689348814741910323))) 4)) &&& (Int64.ofNat 1085102592571150095)) + (am_ushr (((((a0 - ((am_ushr a0 1) &&& (Int64.ofNat 6148914691236517205))) &&& (Int64.ofNat 3689348814741910323)) + ((am_ushr (a0 - ((am_ushr a0 1) &&& (Int64.ofNat 6148914691236517205))) 2) &&& (Int64.ofNat 3689348814741910323))) + (am_ushr (((a0 - ((am_ushr a0 1) &&& (Int64.ofNat 6148914691236517205))) &&& (Int64.ofNat 3689348814741910323)) + ((am_ushr (a0 - ((am_ushr a0 1) &&& (Int64.ofNat 6148914691236517205))) 2) &&& (Int64.ofNat 3689348814741910323))) 4)) &&& (Int64.ofNat 1085102592571150095)) 8)) 16)) 32))) 127), g)
set_option maxHeartbeats 4000000 in
set_option maxRecDepth 100000 in
theorem c_J_bitCount (d : Nat) (a0 : Int64) (g : G2) (r : Int) (g' : G2) (hf : f_J_bitCount a0 g = some (r, g')) : C2 d m_J_bitCount [vL a0] g (some (vI r)) g' := by
  unfold f_J_bitCount at hf
  refine C2.of rfl rfl rfl (Nat.le_of_ble_eq_true rfl) ?_
  cases hf
  refine Rt.path ok_J_bitCount 48 [] rfl trivial ?_
  exact Rt.retI ok_J_bitCount rfl rfl
def f_Expressions_symbolAt_35 (a1 : Int) (a2 : Int) (g : G2) : Option (Int × G2) :=
  if 0 ≤ ((a1 * 24) + a2) ∧ ((a1 * 24) + a2) < 384 then
  some ((rA g 35 ((a1 * 24) + a2)), g)
  else none
set_option maxHeartbeats 4000000 in
set_option maxRecDepth 100000 in
theorem c_Expressions_symbolAt_35 (d : Nat) (a1 : Int) (a2 : Int) (g : G2) (r : Int) (g' : G2) (hf : f_Expressions_symbolAt_35 a1 a2 g = some (r, g')) : C2 d m_Expressions_symbolAt [vR 35, vI a1, vI a2] g (some (vI r)) g' := by
  unfold f_Expressions_symbolAt_35 at hf
  refine C2.of rfl rfl rfl (Nat.le_of_ble_eq_true rfl) ?_
  have h1 : 0 ≤ ((a1 * 24) + a2) ∧ ((a1 * 24) + a2) < 384 := by
    by_cases q : 0 ≤ ((a1 * 24) + a2) ∧ ((a1 * 24) + a2) < 384
    · exact q
    · rw [if_neg q] at hf; cases hf
  rw [if_pos h1] at hf
  cases hf
  refine Rt.path ok_Expressions_symbolAt 8 [] rfl ⟨(ix_384 h1), trivial⟩ ?_
  exact Rt.retI ok_Expressions_symbolAt rfl rfl
def f_Expressions_symbolAt_11 (a1 : Int) (a2 : Int) (g : G2) : Option (Int × G2) :=
  if 0 ≤ ((a1 * 24) + a2) ∧ ((a1 * 24) + a2) < 960 then
  some ((rA g 11 ((a1 * 24) + a2)), g)
  else none
set_option maxHeartbeats 4000000 in
set_option maxRecDepth 100000 in
theorem c_Expressions_symbolAt_11 (d : Nat) (a1 : Int) (a2 : Int) (g : G2) (r : Int) (g' : G2) (hf : f_Expressions_symbolAt_11 a1 a2 g = some (r, g')) : C2 d m_Expressions_symbolAt [vR 11, vI a1, vI a2] g (some (vI r)) g' := by
  unfold f_Expressions_symbolAt_11 at hf
  refine C2.of rfl rfl rfl (Nat.le_of_ble_eq_true rfl) ?_
  have h1 : 0 ≤ ((a1 * 24) + a2) ∧ ((a1 * 24) + a2) < 960 := by
    by_cases q : 0 ≤ ((a1 * 24) + a2) ∧ ((a1 * 24) + a2) < 960
    · exact q
    · rw [if_neg q] at hf; cases hf
  rw [if_pos h1] at hf
  cases hf
  refine Rt.path ok_Expressions_symbolAt 8 [] rfl ⟨(ix_960 h1), trivial⟩ ?_
  exact Rt.retI ok_Expressions_symbolAt rfl rfl
def f_Expressions_startRow_39  (g : G2) : Option (G2) :=
  if 0 ≤ (rI g 38 4) ∧ (rI g 38 4) < 1 then
  some (gB (gA g 40 (rI g 38 4) 0) 41 (rI g 38 4) (Int64.ofNat 0))
  else none
set_option maxHeartbeats 4000000 in
set_option maxRecDepth 100000 in
theorem c_Expressions_startRow_39 (d : Nat)  (g : G2) (g' : G2) (hf : f_Expressions_startRow_39 g = some g') : C2 d m_Expressions_startRow [vR 39] g none g' := by
  unfold f_Expressions_startRow_39 at hf
  refine C2.of rfl rfl rfl (Nat.le_of_ble_eq_true rfl) ?_
  have h1 : 0 ≤ (rI g 38 4) ∧ (rI g 38 4) < 1 := by
    by_cases q : 0 ≤ (rI g 38 4) ∧ (rI g 38 4) < 1
    · exact q
    · rw [if_neg q] at hf; cases hf
  rw [if_pos h1] at hf
  cases hf
  refine Rt.path ok_Expressions_startRow 12 [] rfl ⟨(ix_1 h1), (ix_1 h1), trivial⟩ ?_
  exact Rt.retV ok_Expressions_startRow rfl rfl
