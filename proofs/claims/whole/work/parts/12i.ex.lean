def f_M_readType_50  (g : G2) : Option (Int × G2) :=
  bd (f_M_needName_50 (gI g 49 5 ((rI g 49 5) + 1))) fun r1 g1 =>
  if ir r1 then
  if r1 = 0 then
    some (0, g1)
  else
    bd (f_M_findWord_50 g1) fun r4 g4 =>
    bd (f_M_isConstant_50 r4 g4) fun r5 g5 =>
    if ir r5 then
    if r5 = 0 then
      bd (f_M_isLive_50 r4 g5) fun r8 g8 =>
      if ir r8 then
      if r8 = 0 then
        (f_M_fail_50 (-4) (rI g8 49 5) g8).bind fun g11 =>
        some (0, g11)
      else
        (f_M_fail_50 (-6) (rI g8 49 5) g8).bind fun g12 =>
        some (0, g12)
      else none
    else
      some (1, (gI (gI (gA g5 79 0 r4) 49 40 1) 49 5 ((rI g5 49 5) + 1)))
    else none
  else none
set_option maxHeartbeats 4000000 in
set_option maxRecDepth 100000 in
theorem c_M_readType_50 (d : Nat)  (g : G2) (r : Int) (g' : G2) (hf : f_M_readType_50 g = some (r, g')) : C2 (d + 5) m_M_readType [vR 50] g (some (vI r)) g' := by
  unfold f_M_readType_50 at hf
  refine C2.of rfl rfl rfl (Nat.le_of_ble_eq_true rfl) ?_
  obtain ⟨r1, g1, e1, hf⟩ := bd_inv hf
  refine Rt.path ok_M_readType 7 [] rfl trivial ?_
  refine Rt.callV ok_M_readType rfl ml_M_213 [] cf_M_needName rfl rfl (c_M_needName_50 d _ _ _ e1) (Nat.le_of_ble_eq_true rfl) ?_
  have h2 : ir r1 := by
    by_cases q : ir r1
    · exact q
    · rw [if_neg q] at hf; cases hf
  rw [if_pos h2] at hf
  by_cases h3 : r1 = 0
  · rw [if_pos h3] at hf
    refine Rt.path ok_M_readType 1 [0] rfl ⟨⟨h2, h3⟩, trivial⟩ ?_
    cases hf
    refine Rt.path ok_M_readType 1 [] rfl trivial ?_
    exact Rt.retZ ok_M_readType (show (0 : Int) = 0 ∨ (0 : Int) = 1 by decide) rfl rfl
  · rw [if_neg h3] at hf
    refine Rt.path ok_M_readType 1 [1] rfl ⟨⟨h2, h3⟩, trivial⟩ ?_
    obtain ⟨r4, g4, e4, hf⟩ := bd_inv hf
    refine Rt.path ok_M_readType 1 [] rfl trivial ?_
    refine Rt.callV ok_M_readType rfl ml_M_190 [] cf_M_findWord rfl rfl (c_M_findWord_50 (d + 2) _ _ _ e4) (Nat.le_of_ble_eq_true rfl) ?_
    obtain ⟨r5, g5, e5, hf⟩ := bd_inv hf
    refine Rt.path ok_M_readType 3 [] rfl trivial ?_
    refine Rt.callV ok_M_readType rfl ml_M_196 [vI _] cf_M_isConstant rfl rfl (c_M_isConstant_50 (d + 4) _ _ _ _ e5) (Nat.le_of_ble_eq_true rfl) ?_
    have h6 : ir r5 := by
      by_cases q : ir r5
      · exact q
      · rw [if_neg q] at hf; cases hf
    rw [if_pos h6] at hf
    by_cases h7 : r5 = 0
    · rw [if_pos h7] at hf
      refine Rt.path ok_M_readType 1 [0] rfl ⟨⟨h6, h7⟩, trivial⟩ ?_
      obtain ⟨r8, g8, e8, hf⟩ := bd_inv hf
      refine Rt.path ok_M_readType 3 [] rfl trivial ?_
      refine Rt.callV ok_M_readType rfl ml_M_200 [vI _] cf_M_isLive rfl rfl (c_M_isLive_50 (d + 4) _ _ _ _ e8) (Nat.le_of_ble_eq_true rfl) ?_
      have h9 : ir r8 := by
        by_cases q : ir r8
        · exact q
        · rw [if_neg q] at hf; cases hf
      rw [if_pos h9] at hf
      by_cases h10 : r8 = 0
      · rw [if_pos h10] at hf
        refine Rt.path ok_M_readType 1 [1] rfl ⟨⟨h9, h10⟩, trivial⟩ ?_
        obtain ⟨g11, e11, hf⟩ := Option.bind_eq_some_iff.mp hf
        refine Rt.path ok_M_readType 3 [] rfl trivial ?_
        refine Rt.callV ok_M_readType rfl ml_M_157 [vI _, vI _] cf_M_fail rfl rfl (c_M_fail_50 (d + 4) _ _ _ _ e11) (Nat.le_of_ble_eq_true rfl) ?_
        cases hf
        refine Rt.path ok_M_readType 1 [] rfl trivial ?_
        exact Rt.retZ ok_M_readType (show (0 : Int) = 0 ∨ (0 : Int) = 1 by decide) rfl rfl
      · rw [if_neg h10] at hf
        refine Rt.path ok_M_readType 1 [0] rfl ⟨⟨h9, h10⟩, trivial⟩ ?_
        obtain ⟨g12, e12, hf⟩ := Option.bind_eq_some_iff.mp hf
        refine Rt.path ok_M_readType 4 [] rfl trivial ?_
        refine Rt.callV ok_M_readType rfl ml_M_157 [vI _, vI _] cf_M_fail rfl rfl (c_M_fail_50 (d + 4) _ _ _ _ e12) (Nat.le_of_ble_eq_true rfl) ?_
        cases hf
        refine Rt.path ok_M_readType 1 [] rfl trivial ?_
        exact Rt.retZ ok_M_readType (show (0 : Int) = 0 ∨ (0 : Int) = 1 by decide) rfl rfl
    · rw [if_neg h7] at hf
      refine Rt.path ok_M_readType 1 [1] rfl ⟨⟨h6, h7⟩, trivial⟩ ?_
      cases hf
      refine Rt.path ok_M_readType 15 [] rfl ⟨(show 0 ≤ (0 : Int) ∧ (0 : Int) < ((24 : Nat) : Int) ∧ ((24 : Nat) : Int) < 2147483648 by omega), trivial⟩ ?_
      exact Rt.retZ ok_M_readType (show (1 : Int) = 0 ∨ (1 : Int) = 1 by decide) rfl rfl
def b_M_typeOf_50_0 (L : Nat → Int → Int → G2 → Option (Int × G2)) (i1 : Int) (i2 : Int) (g : G2) : Option (Int × G2) :=
  if ir i2 then
  if ir (rI g 49 15) then
  if i2 < (rI g 49 15) then
    if 0 ≤ i2 ∧ i2 < 40 then
    if ir (rA g 58 i2) then
    if (rA g 58 i2) = 4 then
      if ir (rA g 62 i2) then
      if (rA g 62 i2) = 0 then
        L 0 i1 (i2 + 1) g
      else
        if 0 ≤ ((24 * i2) + 1) ∧ ((24 * i2) + 1) < 960 then
        if ir (rA g 60 ((24 * i2) + 1)) then
        if ir i1 then
        if (rA g 60 ((24 * i2) + 1)) = i1 then
          some (i2, g)
        else
          L 0 i1 (i2 + 1) g
        else none
        else none
        else none
      else none
    else
      L 0 i1 (i2 + 1) g
    else none
    else none
  else
    some ((-1), g)
  else none
  else none
def l_M_typeOf_50 : Nat → Nat → Int → Int → G2 → Option (Int × G2)
  | 0 => fun _ _ _ _ => none
  | n + 1 => fun t i1 i2 g => match t with
    | _ => b_M_typeOf_50_0 (l_M_typeOf_50 n) i1 i2 g
set_option maxHeartbeats 4000000 in
set_option maxRecDepth 100000 in
theorem rl_M_typeOf_50 (d : Nat) : ∀ (n : Nat) (i1 : Int) (i2 : Int) (g : G2) (r : Int) (g' : G2), (l_M_typeOf_50 n 0 i1 i2 g = some (r, g') → Rt d m_M_typeOf 2 [some (vR 50), some (vI i1), some (vI i2)] [] g (some (vI r)) g') := by
  intro n
  induction n with
  | zero => intro i1 i2 g r g'; exact fun hf => by cases hf
  | succ n ih =>
    intro i1 i2 g r g'
    intro hf
    replace hf : b_M_typeOf_50_0 (l_M_typeOf_50 n) i1 i2 g = some (r, g') := hf
    unfold b_M_typeOf_50_0 at hf
    have h1 : ir i2 := by
      by_cases q : ir i2
      · exact q
      · rw [if_neg q] at hf; cases hf
    rw [if_pos h1] at hf
    have h2 : ir (rI g 49 15) := by
      by_cases q : ir (rI g 49 15)
      · exact q
      · rw [if_neg q] at hf; cases hf
    rw [if_pos h2] at hf
    by_cases h3 : i2 < (rI g 49 15)
    · rw [if_pos h3] at hf
      refine Rt.path ok_M_typeOf 4 [0] rfl ⟨⟨⟨h1, h2⟩, h3⟩, trivial⟩ ?_
      have h4 : 0 ≤ i2 ∧ i2 < 40 := by
        by_cases q : 0 ≤ i2 ∧ i2 < 40
        · exact q
        · rw [if_neg q] at hf; cases hf
      rw [if_pos h4] at hf
      have h5 : ir (rA g 58 i2) := by
        by_cases q : ir (rA g 58 i2)
        · exact q
        · rw [if_neg q] at hf; cases hf
      rw [if_pos h5] at hf
      by_cases h6 : (rA g 58 i2) = 4
      · rw [if_pos h6] at hf
        refine Rt.path ok_M_typeOf 6 [0] rfl ⟨(ix_40 h4), ⟨⟨h5, (show ir 4 by decide)⟩, h6⟩, trivial⟩ ?_
        have h7 : ir (rA g 62 i2) := by
          by_cases q : ir (rA g 62 i2)
          · exact q
          · rw [if_neg q] at hf; cases hf
        rw [if_pos h7] at hf
        by_cases h8 : (rA g 62 i2) = 0
        · rw [if_pos h8] at hf
          refine Rt.path ok_M_typeOf 5 [1] rfl ⟨(ix_40 h4), ⟨h7, h8⟩, trivial⟩ ?_
          refine Rt.path ok_M_typeOf 2 [] rfl trivial ?_
          exact Rt.weak ((ih _ _ _ _ _) hf) ⟨rfl, rfl, rfl, trivial⟩
        · rw [if_neg h8] at hf
          refine Rt.path ok_M_typeOf 5 [0] rfl ⟨(ix_40 h4), ⟨h7, h8⟩, trivial⟩ ?_
          have h9 : 0 ≤ ((24 * i2) + 1) ∧ ((24 * i2) + 1) < 960 := by
            by_cases q : 0 ≤ ((24 * i2) + 1) ∧ ((24 * i2) + 1) < 960
            · exact q
            · rw [if_neg q] at hf; cases hf
          rw [if_pos h9] at hf
          have h10 : ir (rA g 60 ((24 * i2) + 1)) := by
            by_cases q : ir (rA g 60 ((24 * i2) + 1))
            · exact q
            · rw [if_neg q] at hf; cases hf
          rw [if_pos h10] at hf
          have h11 : ir i1 := by
            by_cases q : ir i1
            · exact q
            · rw [if_neg q] at hf; cases hf
          rw [if_pos h11] at hf
          by_cases h12 : (rA g 60 ((24 * i2) + 1)) = i1
          · rw [if_pos h12] at hf
            refine Rt.path ok_M_typeOf 10 [0] rfl ⟨(ix_960 h9), ⟨⟨h10, h11⟩, h12⟩, trivial⟩ ?_
            cases hf
            refine Rt.path ok_M_typeOf 1 [] rfl trivial ?_
            exact Rt.retI ok_M_typeOf rfl rfl
          · rw [if_neg h12] at hf
            refine Rt.path ok_M_typeOf 10 [1] rfl ⟨(ix_960 h9), ⟨⟨h10, h11⟩, h12⟩, trivial⟩ ?_
            refine Rt.path ok_M_typeOf 2 [] rfl trivial ?_
            exact Rt.weak ((ih _ _ _ _ _) hf) ⟨rfl, rfl, rfl, trivial⟩
      · rw [if_neg h6] at hf
        refine Rt.path ok_M_typeOf 6 [1] rfl ⟨(ix_40 h4), ⟨⟨h5, (show ir 4 by decide)⟩, h6⟩, trivial⟩ ?_
        refine Rt.path ok_M_typeOf 2 [] rfl trivial ?_
        exact Rt.weak ((ih _ _ _ _ _) hf) ⟨rfl, rfl, rfl, trivial⟩
    · rw [if_neg h3] at hf
      refine Rt.path ok_M_typeOf 4 [1] rfl ⟨⟨⟨h1, h2⟩, (Int.not_lt.mp h3)⟩, trivial⟩ ?_
      cases hf
      refine Rt.path ok_M_typeOf 1 [] rfl trivial ?_
      exact Rt.retI ok_M_typeOf rfl rfl
def f_M_typeOf_50 (a1 : Int) (g : G2) : Option (Int × G2) :=
  l_M_typeOf_50 20000 0 a1 0 g
set_option maxHeartbeats 4000000 in
set_option maxRecDepth 100000 in
theorem c_M_typeOf_50 (d : Nat) (a1 : Int) (g : G2) (r : Int) (g' : G2) (hf : f_M_typeOf_50 a1 g = some (r, g')) : C2 d m_M_typeOf [vR 50, vI a1] g (some (vI r)) g' := by
  unfold f_M_typeOf_50 at hf
  refine C2.of rfl rfl rfl (Nat.le_of_ble_eq_true rfl) ?_
  refine Rt.path ok_M_typeOf 2 [] rfl trivial ?_
  exact Rt.weak ((rl_M_typeOf_50 d _ _ _ _ _ _) hf) ⟨rfl, rfl, rfl, trivial⟩
def f_M_addName_50 (a1 : Int64) (g : G2) : Option (Int × G2) :=
  if 0 ≤ (rI g 49 8) ∧ (rI g 49 8) < 60 then
  some ((((rI g 49 8) + 1) - 1), (gI (gA (gA (gA (gB g 53 (rI g 49 8) a1) 54 (rI g 49 8) 0) 55 (rI g 49 8) 0) 57 (rI g 49 8) (-1)) 49 8 ((rI g 49 8) + 1)))
  else none
set_option maxHeartbeats 4000000 in
set_option maxRecDepth 100000 in
theorem c_M_addName_50 (d : Nat) (a1 : Int64) (g : G2) (r : Int) (g' : G2) (hf : f_M_addName_50 a1 g = some (r, g')) : C2 d m_M_addName [vR 50, vL a1] g (some (vI r)) g' := by
  unfold f_M_addName_50 at hf
  refine C2.of rfl rfl rfl (Nat.le_of_ble_eq_true rfl) ?_
  have h1 : 0 ≤ (rI g 49 8) ∧ (rI g 49 8) < 60 := by
    by_cases q : 0 ≤ (rI g 49 8) ∧ (rI g 49 8) < 60
    · exact q
    · rw [if_neg q] at hf; cases hf
  rw [if_pos h1] at hf
  cases hf
  refine Rt.path ok_M_addName 34 [] rfl ⟨(ix_60 h1), (ix_60 h1), ⟨(ix_60 h1), (show (0 : Int) = 0 ∨ (0 : Int) = 1 by decide)⟩, (ix_60 h1), trivial⟩ ?_
  exact Rt.retI ok_M_addName rfl rfl
def b_M_declare_50_0 (L : Nat → Int → Int → Int → G2 → Option (Int × G2)) (i1 : Int) (i4 : Int) (i6 : Int) (g : G2) : Option (Int × G2) :=
  if ir i6 then
  if ir (rI g 49 40) then
  if i6 < (rI g 49 40) then
    if 0 ≤ i6 ∧ i6 < 24 then
    if 0 ≤ ((24 * i4) + i6) ∧ ((24 * i4) + i6) < 960 then
    L 0 i1 i4 (i6 + 1) (gA g 60 ((24 * i4) + i6) (rA g 79 i6))
    else none
    else none
  else
    if ir i1 then
    if i1 = 4 then
      if 0 ≤ i4 ∧ i4 < 40 then
      some (i4, (gI (gA (gA (gA g 62 i4 1) 63 i4 (rI g 49 14)) 64 i4 (-1)) 49 15 ((rI g 49 15) + 1)))
      else none
    else
      if i1 = 5 then
        if 0 ≤ i4 ∧ i4 < 40 then
        some (i4, (gI (gA (gA (gA g 62 i4 1) 63 i4 (rI g 49 14)) 64 i4 (-1)) 49 15 ((rI g 49 15) + 1)))
        else none
      else
        if 0 ≤ i4 ∧ i4 < 40 then
        some (i4, (gI (gA (gA (gA g 62 i4 0) 63 i4 (rI g 49 14)) 64 i4 (-1)) 49 15 ((rI g 49 15) + 1)))
        else none
    else none
  else none
  else none
def l_M_declare_50 : Nat → Nat → Int → Int → Int → G2 → Option (Int × G2)
  | 0 => fun _ _ _ _ _ => none
  | n + 1 => fun t i1 i4 i6 g => match t with
    | _ => b_M_declare_50_0 (l_M_declare_50 n) i1 i4 i6 g
set_option maxHeartbeats 4000000 in
set_option maxRecDepth 100000 in
theorem rl_M_declare_50 (d : Nat) : ∀ (n : Nat) (i1 : Int) (i4 : Int) (i6 : Int) (g : G2) (r : Int) (g' : G2), (l_M_declare_50 n 0 i1 i4 i6 g = some (r, g') → Rt (d + 1) m_M_declare 53 [some (vR 50), some (vI i1), none, none, some (vI i4), none, some (vI i6)] [] g (some (vI r)) g') := by
  intro n
  induction n with
  | zero => intro i1 i4 i6 g r g'; exact fun hf => by cases hf
  | succ n ih =>
    intro i1 i4 i6 g r g'
    intro hf
    replace hf : b_M_declare_50_0 (l_M_declare_50 n) i1 i4 i6 g = some (r, g') := hf
    unfold b_M_declare_50_0 at hf
    have h4 : ir i6 := by
      by_cases q : ir i6
      · exact q
      · rw [if_neg q] at hf; cases hf
    rw [if_pos h4] at hf
    have h5 : ir (rI g 49 40) := by
      by_cases q : ir (rI g 49 40)
      · exact q
      · rw [if_neg q] at hf; cases hf
    rw [if_pos h5] at hf
    by_cases h6 : i6 < (rI g 49 40)
    · rw [if_pos h6] at hf
      refine Rt.path ok_M_declare 4 [0] rfl ⟨⟨⟨h4, h5⟩, h6⟩, trivial⟩ ?_
      have h7 : 0 ≤ i6 ∧ i6 < 24 := by
        by_cases q : 0 ≤ i6 ∧ i6 < 24
        · exact q
        · rw [if_neg q] at hf; cases hf
      rw [if_pos h7] at hf
      have h8 : 0 ≤ ((24 * i4) + i6) ∧ ((24 * i4) + i6) < 960 := by
        by_cases q : 0 ≤ ((24 * i4) + i6) ∧ ((24 * i4) + i6) < 960
        · exact q
        · rw [if_neg q] at hf; cases hf
      rw [if_pos h8] at hf
      refine Rt.path ok_M_declare 14 [] rfl ⟨(ix_24 h7), (ix_960 h8), trivial⟩ ?_
      exact Rt.weak ((ih _ _ _ _ _ _) hf) ⟨rfl, rfl, rfl, rfl, trivial⟩
    · rw [if_neg h6] at hf
      refine Rt.path ok_M_declare 4 [1] rfl ⟨⟨⟨h4, h5⟩, (Int.not_lt.mp h6)⟩, trivial⟩ ?_
      have h9 : ir i1 := by
        by_cases q : ir i1
        · exact q
        · rw [if_neg q] at hf; cases hf
      rw [if_pos h9] at hf
      by_cases h10 : i1 = 4
      · rw [if_pos h10] at hf
        refine Rt.path ok_M_declare 6 [1] rfl ⟨⟨⟨h9, (show ir 4 by decide)⟩, h10⟩, trivial⟩ ?_
        have h11 : 0 ≤ i4 ∧ i4 < 40 := by
          by_cases q : 0 ≤ i4 ∧ i4 < 40
          · exact q
          · rw [if_neg q] at hf; cases hf
        rw [if_pos h11] at hf
        cases hf
        refine Rt.path ok_M_declare 21 [] rfl ⟨⟨(ix_40 h11), (show (1 : Int) = 0 ∨ (1 : Int) = 1 by decide)⟩, (ix_40 h11), (ix_40 h11), trivial⟩ ?_
        exact Rt.retI ok_M_declare rfl rfl
      · rw [if_neg h10] at hf
        refine Rt.path ok_M_declare 6 [0] rfl ⟨⟨⟨h9, (show ir 4 by decide)⟩, h10⟩, trivial⟩ ?_
        by_cases h12 : i1 = 5
        · rw [if_pos h12] at hf
          refine Rt.path ok_M_declare 3 [0] rfl ⟨⟨⟨h9, (show ir 5 by decide)⟩, h12⟩, trivial⟩ ?_
          have h13 : 0 ≤ i4 ∧ i4 < 40 := by
            by_cases q : 0 ≤ i4 ∧ i4 < 40
            · exact q
            · rw [if_neg q] at hf; cases hf
          rw [if_pos h13] at hf
          cases hf
          refine Rt.path ok_M_declare 21 [] rfl ⟨⟨(ix_40 h13), (show (1 : Int) = 0 ∨ (1 : Int) = 1 by decide)⟩, (ix_40 h13), (ix_40 h13), trivial⟩ ?_
          exact Rt.retI ok_M_declare rfl rfl
        · rw [if_neg h12] at hf
          refine Rt.path ok_M_declare 3 [1] rfl ⟨⟨⟨h9, (show ir 5 by decide)⟩, h12⟩, trivial⟩ ?_
          have h14 : 0 ≤ i4 ∧ i4 < 40 := by
            by_cases q : 0 ≤ i4 ∧ i4 < 40
            · exact q
            · rw [if_neg q] at hf; cases hf
          rw [if_pos h14] at hf
          cases hf
          refine Rt.path ok_M_declare 20 [] rfl ⟨⟨(ix_40 h14), (show (0 : Int) = 0 ∨ (0 : Int) = 1 by decide)⟩, (ix_40 h14), (ix_40 h14), trivial⟩ ?_
          exact Rt.retI ok_M_declare rfl rfl
def f_M_declare_50 (a1 : Int) (a2 : Int64) (g : G2) : Option (Int × G2) :=
  bd (f_M_addName_50 a2 g) fun r1 g1 =>
  if 0 ≤ r1 ∧ r1 < 60 then
  if 0 ≤ (rI g 49 15) ∧ (rI g 49 15) < 40 then
  l_M_declare_50 20000 0 a1 (rI g 49 15) 0 (gA (gA (gA (gA g1 57 r1 (rI g 49 15)) 58 (rI g 49 15) a1) 59 (rI g 49 15) r1) 61 (rI g 49 15) (rI g1 49 40))
  else none
  else none
set_option maxHeartbeats 4000000 in
set_option maxRecDepth 100000 in
theorem c_M_declare_50 (d : Nat) (a1 : Int) (a2 : Int64) (g : G2) (r : Int) (g' : G2) (hf : f_M_declare_50 a1 a2 g = some (r, g')) : C2 (d + 1) m_M_declare [vR 50, vI a1, vL a2] g (some (vI r)) g' := by
  unfold f_M_declare_50 at hf
  refine C2.of rfl rfl rfl (Nat.le_of_ble_eq_true rfl) ?_
  obtain ⟨r1, g1, e1, hf⟩ := bd_inv hf
  refine Rt.path ok_M_declare 5 [] rfl trivial ?_
  refine Rt.callV ok_M_declare rfl ml_M_193 [vL _] cf_M_addName rfl rfl (c_M_addName_50 d _ _ _ _ e1) (Nat.le_of_ble_eq_true rfl) ?_
  have h2 : 0 ≤ r1 ∧ r1 < 60 := by
    by_cases q : 0 ≤ r1 ∧ r1 < 60
    · exact q
    · rw [if_neg q] at hf; cases hf
  rw [if_pos h2] at hf
  have h3 : 0 ≤ (rI g 49 15) ∧ (rI g 49 15) < 40 := by
    by_cases q : 0 ≤ (rI g 49 15) ∧ (rI g 49 15) < 40
    · exact q
    · rw [if_neg q] at hf; cases hf
  rw [if_pos h3] at hf
  refine Rt.path ok_M_declare 24 [] rfl ⟨(ix_60 h2), (ix_40 h3), (ix_40 h3), (ix_40 h3), trivial⟩ ?_
  exact Rt.weak ((rl_M_declare_50 d _ _ _ _ _ _ _) hf) ⟨rfl, rfl, rfl, rfl, trivial⟩
def b_M_readFloating_50_0 (L : Nat → Int64 → G2 → Option (G2)) (l1 : Int64) (g : G2) : Option (G2) :=
  some g
def b_M_readFloating_50_1 (L : Nat → Int64 → G2 → Option (G2)) (l1 : Int64) (g : G2) : Option (G2) :=
  (f_M_fail_50 (-4) (rI g 49 5) g).bind fun g23 =>
  L 3 0 g23
def b_M_readFloating_50_2 (L : Nat → Int64 → G2 → Option (G2)) (l1 : Int64) (g : G2) : Option (G2) :=
  if ir (rI g 49 6) then
  if (rI g 49 6) = 0 then
    bd (f_M_declare_50 4 l1 (gI g 49 5 ((rI g 49 5) + 1))) fun r26 g26 =>
    L 3 0 g26
  else
    L 3 0 g
  else none
def b_M_readFloating_50_3 (L : Nat → Int64 → G2 → Option (G2)) (l1 : Int64) (g : G2) : Option (G2) :=
  some g
def l_M_readFloating_50 : Nat → Nat → Int64 → G2 → Option (G2)
  | 0 => fun _ _ _ => none
  | n + 1 => fun t l1 g => match t with
    | 0 => b_M_readFloating_50_0 (l_M_readFloating_50 n) l1 g
    | 1 => b_M_readFloating_50_1 (l_M_readFloating_50 n) l1 g
    | 2 => b_M_readFloating_50_2 (l_M_readFloating_50 n) l1 g
    | _ => b_M_readFloating_50_3 (l_M_readFloating_50 n) l1 g
set_option maxHeartbeats 4000000 in
set_option maxRecDepth 100000 in
theorem rl_M_readFloating_50 (d : Nat) : ∀ (n : Nat) (l1 : Int64) (g : G2) (g' : G2), (l_M_readFloating_50 n 0 l1 g = some g' → Rt (d + 6) m_M_readFloating 14 [none, none, none, none, none, none] [] g none g') ∧ (l_M_readFloating_50 n 1 l1 g = some g' → Rt (d + 6) m_M_readFloating 57 [some (vR 50), none, none, none, none, none] [] g none g') ∧ (l_M_readFloating_50 n 2 l1 g = some g' → Rt (d + 6) m_M_readFloating 120 [some (vR 50), some (vL l1), none, none, none, none] [] g none g') ∧ (l_M_readFloating_50 n 3 l1 g = some g' → Rt (d + 6) m_M_readFloating 145 [none, none, none, none, none, none] [] g none g') := by
  intro n
  induction n with
  | zero => intro l1 g g'; exact ⟨fun hf => (by cases hf), fun hf => (by cases hf), fun hf => (by cases hf), fun hf => (by cases hf)⟩
  | succ n ih =>
    intro l1 g g'
    refine ⟨?_, ?_, ?_, ?_⟩
    · intro hf
      replace hf : b_M_readFloating_50_0 (l_M_readFloating_50 n) l1 g = some g' := hf
      unfold b_M_readFloating_50_0 at hf
      cases hf
      exact Rt.retV ok_M_readFloating rfl rfl
    · intro hf
      replace hf : b_M_readFloating_50_1 (l_M_readFloating_50 n) l1 g = some g' := hf
      unfold b_M_readFloating_50_1 at hf
      obtain ⟨g23, e23, hf⟩ := Option.bind_eq_some_iff.mp hf
      refine Rt.path ok_M_readFloating 4 [] rfl trivial ?_
      refine Rt.callV ok_M_readFloating rfl ml_M_157 [vI _, vI _] cf_M_fail rfl rfl (c_M_fail_50 (d + 5) _ _ _ _ e23) (Nat.le_of_ble_eq_true rfl) ?_
      refine Rt.path ok_M_readFloating 1 [] rfl trivial ?_
      exact Rt.weak ((ih _ _ _).2.2.2 hf) trivial
    · intro hf
      replace hf : b_M_readFloating_50_2 (l_M_readFloating_50 n) l1 g = some g' := hf
      unfold b_M_readFloating_50_2 at hf
      have h24 : ir (rI g 49 6) := by
        by_cases q : ir (rI g 49 6)
        · exact q
        · rw [if_neg q] at hf; cases hf
      rw [if_pos h24] at hf
      by_cases h25 : (rI g 49 6) = 0
      · rw [if_pos h25] at hf
        refine Rt.path ok_M_readFloating 3 [0] rfl ⟨⟨h24, h25⟩, trivial⟩ ?_
        obtain ⟨r26, g26, e26, hf⟩ := bd_inv hf
        refine Rt.path ok_M_readFloating 9 [] rfl trivial ?_
        refine Rt.callV ok_M_readFloating rfl ml_M_222 [vI _, vL _] cf_M_declare rfl rfl (c_M_declare_50 (d + 4) _ _ _ _ _ e26) (Nat.le_of_ble_eq_true rfl) ?_
        refine Rt.path ok_M_readFloating 1 [] rfl trivial ?_
        exact Rt.weak ((ih _ _ _).2.2.2 hf) trivial
      · rw [if_neg h25] at hf
        refine Rt.path ok_M_readFloating 3 [1] rfl ⟨⟨h24, h25⟩, trivial⟩ ?_
        exact Rt.weak ((ih _ _ _).2.2.2 hf) trivial
    · intro hf
      replace hf : b_M_readFloating_50_3 (l_M_readFloating_50 n) l1 g = some g' := hf
      unfold b_M_readFloating_50_3 at hf
      cases hf
      exact Rt.retV ok_M_readFloating rfl rfl
def f_M_readFloating_50 (a1 : Int64) (g : G2) : Option (G2) :=
  bd (f_M_readType_50 g) fun r1 g1 =>
  if ir r1 then
  if r1 = 0 then
    l_M_readFloating_50 20000 0 0 g1
  else
    bd (f_M_needName_50 g1) fun r4 g4 =>
    if ir r4 then
    if r4 = 0 then
      l_M_readFloating_50 20000 0 0 g4
    else
      bd (f_M_findWord_50 g4) fun r7 g7 =>
      bd (f_M_isConstant_50 r7 g7) fun r8 g8 =>
      if ir r8 then
      if r8 = 0 then
        bd (f_M_isLive_50 r7 g8) fun r11 g11 =>
        if ir r11 then
        if r11 = 0 then
          l_M_readFloating_50 20000 1 0 g11
        else
          bd (f_M_typeOf_50 r7 g11) fun r14 g14 =>
          if ir r14 then
          if r14 < 0 then
            bd (f_M_need_50 (gI (gI (gA g14 79 1 r7) 49 40 2) 49 5 ((rI g14 49 5) + 1))) fun r17 g17 =>
            if ir r17 then
            if r17 < 0 then
              l_M_readFloating_50 20000 2 a1 g17
            else
              if r17 = 9 then
                l_M_readFloating_50 20000 2 a1 g17
              else
                (f_M_fail_50 (-3) (rI g17 49 5) g17).bind fun g21 =>
                l_M_readFloating_50 20000 2 a1 g21
            else none
          else
            l_M_readFloating_50 20000 1 0 g14
          else none
        else none
      else
        (f_M_fail_50 (-6) (rI g8 49 5) g8).bind fun g22 =>
        l_M_readFloating_50 20000 3 0 g22
      else none
    else none
  else none
set_option maxHeartbeats 4000000 in
set_option maxRecDepth 100000 in
theorem c_M_readFloating_50 (d : Nat) (a1 : Int64) (g : G2) (g' : G2) (hf : f_M_readFloating_50 a1 g = some g') : C2 (d + 6) m_M_readFloating [vR 50, vL a1] g none g' := by
  unfold f_M_readFloating_50 at hf
  refine C2.of rfl rfl rfl (Nat.le_of_ble_eq_true rfl) ?_
  obtain ⟨r1, g1, e1, hf⟩ := bd_inv hf
  refine Rt.path ok_M_readFloating 1 [] rfl trivial ?_
  refine Rt.callV ok_M_readFloating rfl ml_M_216 [] cf_M_readType rfl rfl (c_M_readType_50 d _ _ _ e1) (Nat.le_of_ble_eq_true rfl) ?_
  have h2 : ir r1 := by
    by_cases q : ir r1
    · exact q
    · rw [if_neg q] at hf; cases hf
  rw [if_pos h2] at hf
  by_cases h3 : r1 = 0
  · rw [if_pos h3] at hf
    refine Rt.path ok_M_readFloating 1 [1] rfl ⟨⟨h2, h3⟩, trivial⟩ ?_
    exact Rt.weak ((rl_M_readFloating_50 d _ _ _ _).1 hf) trivial
  · rw [if_neg h3] at hf
    refine Rt.path ok_M_readFloating 1 [0] rfl ⟨⟨h2, h3⟩, trivial⟩ ?_
    obtain ⟨r4, g4, e4, hf⟩ := bd_inv hf
    refine Rt.path ok_M_readFloating 1 [] rfl trivial ?_
    refine Rt.callV ok_M_readFloating rfl ml_M_213 [] cf_M_needName rfl rfl (c_M_needName_50 (d + 1) _ _ _ e4) (Nat.le_of_ble_eq_true rfl) ?_
    have h5 : ir r4 := by
      by_cases q : ir r4
      · exact q
      · rw [if_neg q] at hf; cases hf
    rw [if_pos h5] at hf
    by_cases h6 : r4 = 0
    · rw [if_pos h6] at hf
      refine Rt.path ok_M_readFloating 1 [0] rfl ⟨⟨h5, h6⟩, trivial⟩ ?_
      exact Rt.weak ((rl_M_readFloating_50 d _ _ _ _).1 hf) trivial
    · rw [if_neg h6] at hf
      refine Rt.path ok_M_readFloating 1 [1] rfl ⟨⟨h5, h6⟩, trivial⟩ ?_
      obtain ⟨r7, g7, e7, hf⟩ := bd_inv hf
      refine Rt.path ok_M_readFloating 1 [] rfl trivial ?_
      refine Rt.callV ok_M_readFloating rfl ml_M_190 [] cf_M_findWord rfl rfl (c_M_findWord_50 (d + 3) _ _ _ e7) (Nat.le_of_ble_eq_true rfl) ?_
      obtain ⟨r8, g8, e8, hf⟩ := bd_inv hf
      refine Rt.path ok_M_readFloating 3 [] rfl trivial ?_
      refine Rt.callV ok_M_readFloating rfl ml_M_196 [vI _] cf_M_isConstant rfl rfl (c_M_isConstant_50 (d + 5) _ _ _ _ e8) (Nat.le_of_ble_eq_true rfl) ?_
      have h9 : ir r8 := by
        by_cases q : ir r8
        · exact q
        · rw [if_neg q] at hf; cases hf
      rw [if_pos h9] at hf
      by_cases h10 : r8 = 0
      · rw [if_pos h10] at hf
        refine Rt.path ok_M_readFloating 1 [1] rfl ⟨⟨h9, h10⟩, trivial⟩ ?_
        obtain ⟨r11, g11, e11, hf⟩ := bd_inv hf
        refine Rt.path ok_M_readFloating 2 [] rfl trivial ?_
        refine Rt.callV ok_M_readFloating rfl ml_M_200 [vI _] cf_M_isLive rfl rfl (c_M_isLive_50 (d + 5) _ _ _ _ e11) (Nat.le_of_ble_eq_true rfl) ?_
        have h12 : ir r11 := by
          by_cases q : ir r11
          · exact q
          · rw [if_neg q] at hf; cases hf
        rw [if_pos h12] at hf
        by_cases h13 : r11 = 0
        · rw [if_pos h13] at hf
          refine Rt.path ok_M_readFloating 1 [1] rfl ⟨⟨h12, h13⟩, trivial⟩ ?_
          exact Rt.weak ((rl_M_readFloating_50 d _ _ _ _).2.1 hf) ⟨rfl, trivial⟩
        · rw [if_neg h13] at hf
          refine Rt.path ok_M_readFloating 1 [0] rfl ⟨⟨h12, h13⟩, trivial⟩ ?_
          obtain ⟨r14, g14, e14, hf⟩ := bd_inv hf
          refine Rt.path ok_M_readFloating 2 [] rfl trivial ?_
          refine Rt.callV ok_M_readFloating rfl ml_M_219 [vI _] cf_M_typeOf rfl rfl (c_M_typeOf_50 (d + 5) _ _ _ _ e14) (Nat.le_of_ble_eq_true rfl) ?_
          have h15 : ir r14 := by
            by_cases q : ir r14
            · exact q
            · rw [if_neg q] at hf; cases hf
          rw [if_pos h15] at hf
          by_cases h16 : r14 < 0
          · rw [if_pos h16] at hf
            refine Rt.path ok_M_readFloating 1 [1] rfl ⟨⟨h15, h16⟩, trivial⟩ ?_
            obtain ⟨r17, g17, e17, hf⟩ := bd_inv hf
            refine Rt.path ok_M_readFloating 15 [] rfl ⟨(show 0 ≤ (1 : Int) ∧ (1 : Int) < ((24 : Nat) : Int) ∧ ((24 : Nat) : Int) < 2147483648 by omega), trivial⟩ ?_
            refine Rt.callV ok_M_readFloating rfl ml_M_169 [] cf_M_need rfl rfl (c_M_need_50 (d + 2) _ _ _ e17) (Nat.le_of_ble_eq_true rfl) ?_
            have h18 : ir r17 := by
              by_cases q : ir r17
              · exact q
              · rw [if_neg q] at hf; cases hf
            rw [if_pos h18] at hf
            by_cases h19 : r17 < 0
            · rw [if_pos h19] at hf
              refine Rt.path ok_M_readFloating 3 [1] rfl ⟨⟨h18, h19⟩, trivial⟩ ?_
              exact Rt.weak ((rl_M_readFloating_50 d _ _ _ _).2.2.1 hf) ⟨rfl, rfl, trivial⟩
            · rw [if_neg h19] at hf
              refine Rt.path ok_M_readFloating 3 [0] rfl ⟨⟨h18, (Int.not_lt.mp h19)⟩, trivial⟩ ?_
              by_cases h20 : r17 = 9
              · rw [if_pos h20] at hf
                refine Rt.path ok_M_readFloating 3 [1] rfl ⟨⟨⟨h18, (show ir 9 by decide)⟩, h20⟩, trivial⟩ ?_
                exact Rt.weak ((rl_M_readFloating_50 d _ _ _ _).2.2.1 hf) ⟨rfl, rfl, trivial⟩
              · rw [if_neg h20] at hf
                refine Rt.path ok_M_readFloating 3 [0] rfl ⟨⟨⟨h18, (show ir 9 by decide)⟩, h20⟩, trivial⟩ ?_
                obtain ⟨g21, e21, hf⟩ := Option.bind_eq_some_iff.mp hf
                refine Rt.path ok_M_readFloating 4 [] rfl trivial ?_
                refine Rt.callV ok_M_readFloating rfl ml_M_157 [vI _, vI _] cf_M_fail rfl rfl (c_M_fail_50 (d + 5) _ _ _ _ e21) (Nat.le_of_ble_eq_true rfl) ?_
                exact Rt.weak ((rl_M_readFloating_50 d _ _ _ _).2.2.1 hf) ⟨rfl, rfl, trivial⟩
          · rw [if_neg h16] at hf
            refine Rt.path ok_M_readFloating 1 [0] rfl ⟨⟨h15, (Int.not_lt.mp h16)⟩, trivial⟩ ?_
            exact Rt.weak ((rl_M_readFloating_50 d _ _ _ _).2.1 hf) ⟨rfl, trivial⟩
      · rw [if_neg h10] at hf
        refine Rt.path ok_M_readFloating 1 [0] rfl ⟨⟨h9, h10⟩, trivial⟩ ?_
        obtain ⟨g22, e22, hf⟩ := Option.bind_eq_some_iff.mp hf
        refine Rt.path ok_M_readFloating 4 [] rfl trivial ?_
        refine Rt.callV ok_M_readFloating rfl ml_M_157 [vI _, vI _] cf_M_fail rfl rfl (c_M_fail_50 (d + 5) _ _ _ _ e22) (Nat.le_of_ble_eq_true rfl) ?_
        refine Rt.path ok_M_readFloating 1 [] rfl trivial ?_
        exact Rt.weak ((rl_M_readFloating_50 d _ _ _ _).2.2.2 hf) trivial
def b_M_readExpression_50_0 (L : Nat → Int → Int → G2 → Option (Int × G2)) (i1 : Int) (i3 : Int) (g : G2) : Option (Int × G2) :=
  if ir (rI g 49 6) then
  if (rI g 49 6) = 0 then
    bd (f_M_need_50 g) fun r6 g6 =>
    if ir r6 then
    if ir i1 then
    if r6 = i1 then
      some (1, (gI g6 49 5 ((rI g6 49 5) + 1)))
    else
      if r6 = 0 then
        bd (f_M_findWord_50 g6) fun r11 g11 =>
        bd (f_M_isConstant_50 r11 g11) fun r12 g12 =>
        if ir r12 then
        if r12 = 0 then
          bd (f_M_isLive_50 r11 g12) fun r15 g15 =>
          if ir r15 then
          if r15 = 0 then
            L 1 i1 0 g15
          else
            bd (f_M_typeOf_50 r11 g15) fun r18 g18 =>
            if ir r18 then
            if r18 < 0 then
              L 1 i1 0 g18
            else
              L 2 i1 r11 g18
            else none
          else none
        else
          L 2 i1 r11 g12
        else none
      else
        (f_M_fail_50 (-3) (rI g6 49 5) g6).bind fun g21 =>
        some (0, g21)
    else none
    else none
  else
    some (0, g)
  else none
def b_M_readExpression_50_1 (L : Nat → Int → Int → G2 → Option (Int × G2)) (i1 : Int) (i3 : Int) (g : G2) : Option (Int × G2) :=
  (f_M_fail_50 (-4) (rI g 49 5) g).bind fun g22 =>
  L 3 i1 0 g22
def b_M_readExpression_50_2 (L : Nat → Int → Int → G2 → Option (Int × G2)) (i1 : Int) (i3 : Int) (g : G2) : Option (Int × G2) :=
  if ir (rI g 49 40) then
  if (rI g 49 40) = 24 then
    (f_M_fail_50 (-7) (rI g 49 5) g).bind fun g25 =>
    L 3 i1 0 g25
  else
    if 0 ≤ (rI g 49 40) ∧ (rI g 49 40) < 24 then
    L 3 i1 0 (gI (gI (gA g 79 (rI g 49 40) i3) 49 40 ((rI g 49 40) + 1)) 49 5 ((rI g 49 5) + 1))
    else none
  else none
def b_M_readExpression_50_3 (L : Nat → Int → Int → G2 → Option (Int × G2)) (i1 : Int) (i3 : Int) (g : G2) : Option (Int × G2) :=
  L 0 i1 0 g
def l_M_readExpression_50 : Nat → Nat → Int → Int → G2 → Option (Int × G2)
  | 0 => fun _ _ _ _ => none
  | n + 1 => fun t i1 i3 g => match t with
    | 0 => b_M_readExpression_50_0 (l_M_readExpression_50 n) i1 i3 g
    | 1 => b_M_readExpression_50_1 (l_M_readExpression_50 n) i1 i3 g
    | 2 => b_M_readExpression_50_2 (l_M_readExpression_50 n) i1 i3 g
    | _ => b_M_readExpression_50_3 (l_M_readExpression_50 n) i1 i3 g
set_option maxHeartbeats 4000000 in
set_option maxRecDepth 100000 in
theorem rl_M_readExpression_50 (d : Nat) : ∀ (n : Nat) (i1 : Int) (i3 : Int) (g : G2) (r : Int) (g' : G2), (l_M_readExpression_50 n 0 i1 i3 g = some (r, g') → Rt (d + 6) m_M_readExpression 9 [some (vR 50), some (vI i1), none, none] [] g (some (vI r)) g') ∧ (l_M_readExpression_50 n 1 i1 i3 g = some (r, g') → Rt (d + 6) m_M_readExpression 83 [some (vR 50), some (vI i1), none, none] [] g (some (vI r)) g') ∧ (l_M_readExpression_50 n 2 i1 i3 g = some (r, g') → Rt (d + 6) m_M_readExpression 96 [some (vR 50), some (vI i1), none, some (vI i3)] [] g (some (vI r)) g') ∧ (l_M_readExpression_50 n 3 i1 i3 g = some (r, g') → Rt (d + 6) m_M_readExpression 148 [some (vR 50), some (vI i1), none, none] [] g (some (vI r)) g') := by
  intro n
  induction n with
  | zero => intro i1 i3 g r g'; exact ⟨fun hf => (by cases hf), fun hf => (by cases hf), fun hf => (by cases hf), fun hf => (by cases hf)⟩
  | succ n ih =>
    intro i1 i3 g r g'
    refine ⟨?_, ?_, ?_, ?_⟩
    · intro hf
      replace hf : b_M_readExpression_50_0 (l_M_readExpression_50 n) i1 i3 g = some (r, g') := hf
      unfold b_M_readExpression_50_0 at hf
      have h4 : ir (rI g 49 6) := by
        by_cases q : ir (rI g 49 6)
        · exact q
        · rw [if_neg q] at hf; cases hf
      rw [if_pos h4] at hf
      by_cases h5 : (rI g 49 6) = 0
      · rw [if_pos h5] at hf
        refine Rt.path ok_M_readExpression 3 [0] rfl ⟨⟨h4, h5⟩, trivial⟩ ?_
        obtain ⟨r6, g6, e6, hf⟩ := bd_inv hf
        refine Rt.path ok_M_readExpression 1 [] rfl trivial ?_
        refine Rt.callV ok_M_readExpression rfl ml_M_169 [] cf_M_need rfl rfl (c_M_need_50 (d + 2) _ _ _ e6) (Nat.le_of_ble_eq_true rfl) ?_
        have h7 : ir r6 := by
          by_cases q : ir r6
          · exact q
          · rw [if_neg q] at hf; cases hf
        rw [if_pos h7] at hf
        have h8 : ir i1 := by
          by_cases q : ir i1
          · exact q
          · rw [if_neg q] at hf; cases hf
        rw [if_pos h8] at hf
        by_cases h9 : r6 = i1
        · rw [if_pos h9] at hf
          refine Rt.path ok_M_readExpression 4 [0] rfl ⟨⟨⟨h7, h8⟩, h9⟩, trivial⟩ ?_
          cases hf
          refine Rt.path ok_M_readExpression 7 [] rfl trivial ?_
          exact Rt.retZ ok_M_readExpression (show (1 : Int) = 0 ∨ (1 : Int) = 1 by decide) rfl rfl
        · rw [if_neg h9] at hf
          refine Rt.path ok_M_readExpression 4 [1] rfl ⟨⟨⟨h7, h8⟩, h9⟩, trivial⟩ ?_
          by_cases h10 : r6 = 0
          · rw [if_pos h10] at hf
            refine Rt.path ok_M_readExpression 2 [1] rfl ⟨⟨h7, h10⟩, trivial⟩ ?_
            obtain ⟨r11, g11, e11, hf⟩ := bd_inv hf
            refine Rt.path ok_M_readExpression 1 [] rfl trivial ?_
            refine Rt.callV ok_M_readExpression rfl ml_M_190 [] cf_M_findWord rfl rfl (c_M_findWord_50 (d + 3) _ _ _ e11) (Nat.le_of_ble_eq_true rfl) ?_
            obtain ⟨r12, g12, e12, hf⟩ := bd_inv hf
            refine Rt.path ok_M_readExpression 3 [] rfl trivial ?_
            refine Rt.callV ok_M_readExpression rfl ml_M_196 [vI _] cf_M_isConstant rfl rfl (c_M_isConstant_50 (d + 5) _ _ _ _ e12) (Nat.le_of_ble_eq_true rfl) ?_
            have h13 : ir r12 := by
              by_cases q : ir r12
              · exact q
              · rw [if_neg q] at hf; cases hf
            rw [if_pos h13] at hf
            by_cases h14 : r12 = 0
            · rw [if_pos h14] at hf
              refine Rt.path ok_M_readExpression 1 [0] rfl ⟨⟨h13, h14⟩, trivial⟩ ?_
              obtain ⟨r15, g15, e15, hf⟩ := bd_inv hf
              refine Rt.path ok_M_readExpression 2 [] rfl trivial ?_
              refine Rt.callV ok_M_readExpression rfl ml_M_200 [vI _] cf_M_isLive rfl rfl (c_M_isLive_50 (d + 5) _ _ _ _ e15) (Nat.le_of_ble_eq_true rfl) ?_
              have h16 : ir r15 := by
                by_cases q : ir r15
                · exact q
                · rw [if_neg q] at hf; cases hf
              rw [if_pos h16] at hf
              by_cases h17 : r15 = 0
              · rw [if_pos h17] at hf
                refine Rt.path ok_M_readExpression 1 [1] rfl ⟨⟨h16, h17⟩, trivial⟩ ?_
                exact Rt.weak ((ih _ _ _ _ _).2.1 hf) ⟨rfl, rfl, trivial⟩
              · rw [if_neg h17] at hf
                refine Rt.path ok_M_readExpression 1 [0] rfl ⟨⟨h16, h17⟩, trivial⟩ ?_
                obtain ⟨r18, g18, e18, hf⟩ := bd_inv hf
                refine Rt.path ok_M_readExpression 2 [] rfl trivial ?_
                refine Rt.callV ok_M_readExpression rfl ml_M_219 [vI _] cf_M_typeOf rfl rfl (c_M_typeOf_50 (d + 5) _ _ _ _ e18) (Nat.le_of_ble_eq_true rfl) ?_
                have h19 : ir r18 := by
                  by_cases q : ir r18
                  · exact q
                  · rw [if_neg q] at hf; cases hf
                rw [if_pos h19] at hf
                by_cases h20 : r18 < 0
                · rw [if_pos h20] at hf
                  refine Rt.path ok_M_readExpression 1 [0] rfl ⟨⟨h19, h20⟩, trivial⟩ ?_
                  exact Rt.weak ((ih _ _ _ _ _).2.1 hf) ⟨rfl, rfl, trivial⟩
                · rw [if_neg h20] at hf
                  refine Rt.path ok_M_readExpression 1 [1] rfl ⟨⟨h19, (Int.not_lt.mp h20)⟩, trivial⟩ ?_
                  exact Rt.weak ((ih _ _ _ _ _).2.2.1 hf) ⟨rfl, rfl, rfl, trivial⟩
            · rw [if_neg h14] at hf
              refine Rt.path ok_M_readExpression 1 [1] rfl ⟨⟨h13, h14⟩, trivial⟩ ?_
              exact Rt.weak ((ih _ _ _ _ _).2.2.1 hf) ⟨rfl, rfl, rfl, trivial⟩
          · rw [if_neg h10] at hf
            refine Rt.path ok_M_readExpression 2 [0] rfl ⟨⟨h7, h10⟩, trivial⟩ ?_
            obtain ⟨g21, e21, hf⟩ := Option.bind_eq_some_iff.mp hf
            refine Rt.path ok_M_readExpression 4 [] rfl trivial ?_
            refine Rt.callV ok_M_readExpression rfl ml_M_157 [vI _, vI _] cf_M_fail rfl rfl (c_M_fail_50 (d + 5) _ _ _ _ e21) (Nat.le_of_ble_eq_true rfl) ?_
            cases hf
            refine Rt.path ok_M_readExpression 1 [] rfl trivial ?_
            exact Rt.retZ ok_M_readExpression (show (0 : Int) = 0 ∨ (0 : Int) = 1 by decide) rfl rfl
      · rw [if_neg h5] at hf
        refine Rt.path ok_M_readExpression 3 [1] rfl ⟨⟨h4, h5⟩, trivial⟩ ?_
        cases hf
        refine Rt.path ok_M_readExpression 1 [] rfl trivial ?_
        exact Rt.retZ ok_M_readExpression (show (0 : Int) = 0 ∨ (0 : Int) = 1 by decide) rfl rfl
    · intro hf
      replace hf : b_M_readExpression_50_1 (l_M_readExpression_50 n) i1 i3 g = some (r, g') := hf
      unfold b_M_readExpression_50_1 at hf
      obtain ⟨g22, e22, hf⟩ := Option.bind_eq_some_iff.mp hf
      refine Rt.path ok_M_readExpression 4 [] rfl trivial ?_
      refine Rt.callV ok_M_readExpression rfl ml_M_157 [vI _, vI _] cf_M_fail rfl rfl (c_M_fail_50 (d + 5) _ _ _ _ e22) (Nat.le_of_ble_eq_true rfl) ?_
      refine Rt.path ok_M_readExpression 1 [] rfl trivial ?_
      exact Rt.weak ((ih _ _ _ _ _).2.2.2 hf) ⟨rfl, rfl, trivial⟩
    · intro hf
      replace hf : b_M_readExpression_50_2 (l_M_readExpression_50 n) i1 i3 g = some (r, g') := hf
      unfold b_M_readExpression_50_2 at hf
      have h23 : ir (rI g 49 40) := by
        by_cases q : ir (rI g 49 40)
        · exact q
        · rw [if_neg q] at hf; cases hf
      rw [if_pos h23] at hf
      by_cases h24 : (rI g 49 40) = 24
      · rw [if_pos h24] at hf
        refine Rt.path ok_M_readExpression 4 [0] rfl ⟨⟨⟨h23, (show ir 24 by decide)⟩, h24⟩, trivial⟩ ?_
        obtain ⟨g25, e25, hf⟩ := Option.bind_eq_some_iff.mp hf
        refine Rt.path ok_M_readExpression 4 [] rfl trivial ?_
        refine Rt.callV ok_M_readExpression rfl ml_M_157 [vI _, vI _] cf_M_fail rfl rfl (c_M_fail_50 (d + 5) _ _ _ _ e25) (Nat.le_of_ble_eq_true rfl) ?_
        refine Rt.path ok_M_readExpression 1 [] rfl trivial ?_
        exact Rt.weak ((ih _ _ _ _ _).2.2.2 hf) ⟨rfl, rfl, trivial⟩
      · rw [if_neg h24] at hf
        refine Rt.path ok_M_readExpression 4 [1] rfl ⟨⟨⟨h23, (show ir 24 by decide)⟩, h24⟩, trivial⟩ ?_
        have h26 : 0 ≤ (rI g 49 40) ∧ (rI g 49 40) < 24 := by
          by_cases q : 0 ≤ (rI g 49 40) ∧ (rI g 49 40) < 24
          · exact q
          · rw [if_neg q] at hf; cases hf
        rw [if_pos h26] at hf
        refine Rt.path ok_M_readExpression 18 [] rfl ⟨(ix_24 h26), trivial⟩ ?_
        exact Rt.weak ((ih _ _ _ _ _).2.2.2 hf) ⟨rfl, rfl, trivial⟩
    · intro hf
      replace hf : b_M_readExpression_50_3 (l_M_readExpression_50 n) i1 i3 g = some (r, g') := hf
      unfold b_M_readExpression_50_3 at hf
      refine Rt.path ok_M_readExpression 1 [] rfl trivial ?_
      exact Rt.weak ((ih _ _ _ _ _).1 hf) ⟨rfl, rfl, trivial⟩
def f_M_readExpression_50 (a1 : Int) (g : G2) : Option (Int × G2) :=
  bd (f_M_readType_50 g) fun r1 g1 =>
  if ir r1 then
  if r1 = 0 then
    some (0, g1)
  else
    l_M_readExpression_50 20000 0 a1 0 g1
  else none
set_option maxHeartbeats 4000000 in
set_option maxRecDepth 100000 in
theorem c_M_readExpression_50 (d : Nat) (a1 : Int) (g : G2) (r : Int) (g' : G2) (hf : f_M_readExpression_50 a1 g = some (r, g')) : C2 (d + 6) m_M_readExpression [vR 50, vI a1] g (some (vI r)) g' := by
  unfold f_M_readExpression_50 at hf
  refine C2.of rfl rfl rfl (Nat.le_of_ble_eq_true rfl) ?_
  obtain ⟨r1, g1, e1, hf⟩ := bd_inv hf
  refine Rt.path ok_M_readExpression 1 [] rfl trivial ?_
  refine Rt.callV ok_M_readExpression rfl ml_M_216 [] cf_M_readType rfl rfl (c_M_readType_50 d _ _ _ e1) (Nat.le_of_ble_eq_true rfl) ?_
  have h2 : ir r1 := by
    by_cases q : ir r1
    · exact q
    · rw [if_neg q] at hf; cases hf
  rw [if_pos h2] at hf
  by_cases h3 : r1 = 0
  · rw [if_pos h3] at hf
    refine Rt.path ok_M_readExpression 1 [0] rfl ⟨⟨h2, h3⟩, trivial⟩ ?_
    cases hf
    refine Rt.path ok_M_readExpression 1 [] rfl trivial ?_
    exact Rt.retZ ok_M_readExpression (show (0 : Int) = 0 ∨ (0 : Int) = 1 by decide) rfl rfl
  · rw [if_neg h3] at hf
    refine Rt.path ok_M_readExpression 1 [1] rfl ⟨⟨h2, h3⟩, trivial⟩ ?_
    exact Rt.weak ((rl_M_readExpression_50 d _ _ _ _ _ _).1 hf) ⟨rfl, rfl, trivial⟩
def b_M_settle_50_0 (L : Nat → Int → Int → G2 → Option (G2)) (i1 : Int) (i2 : Int) (g : G2) : Option (G2) :=
  if ir i2 then
  if ir i1 then
  if i2 < i1 then
    if 0 ≤ i1 ∧ i1 < 41 then
    if ir (rA g 78 i1) then
    if (rA g 78 i1) = 0 then
      L 0 i1 (i2 + 1) (gA g 78 i1 0)
    else
      if 0 ≤ ((40 * i1) + i2) ∧ ((40 * i1) + i2) < 1640 then
      if ir (rA g 76 ((40 * i1) + i2)) then
      if (rA g 76 ((40 * i1) + i2)) = 0 then
        L 0 i1 (i2 + 1) (gA g 78 i1 1)
      else
        if 0 ≤ i2 ∧ i2 < 41 then
        if ir (rA g 78 i2) then
        if (rA g 78 i2) = 0 then
          L 0 i1 (i2 + 1) (gA g 78 i1 0)
        else
          L 0 i1 (i2 + 1) (gA g 78 i1 1)
        else none
        else none
      else none
      else none
    else none
    else none
  else
    some g
  else none
  else none
def l_M_settle_50 : Nat → Nat → Int → Int → G2 → Option (G2)
  | 0 => fun _ _ _ _ => none
  | n + 1 => fun t i1 i2 g => match t with
    | _ => b_M_settle_50_0 (l_M_settle_50 n) i1 i2 g
set_option maxHeartbeats 4000000 in
set_option maxRecDepth 100000 in
theorem rl_M_settle_50 (d : Nat) : ∀ (n : Nat) (i1 : Int) (i2 : Int) (g : G2) (g' : G2), (l_M_settle_50 n 0 i1 i2 g = some g' → Rt d m_M_settle 30 [some (vR 50), some (vI i1), some (vI i2)] [] g none g') := by
  intro n
  induction n with
  | zero => intro i1 i2 g g'; exact fun hf => by cases hf
  | succ n ih =>
    intro i1 i2 g g'
    intro hf
    replace hf : b_M_settle_50_0 (l_M_settle_50 n) i1 i2 g = some g' := hf
    unfold b_M_settle_50_0 at hf
    have h5 : ir i2 := by
      by_cases q : ir i2
      · exact q
      · rw [if_neg q] at hf; cases hf
    rw [if_pos h5] at hf
    have h6 : ir i1 := by
      by_cases q : ir i1
      · exact q
      · rw [if_neg q] at hf; cases hf
    rw [if_pos h6] at hf
    by_cases h7 : i2 < i1
    · rw [if_pos h7] at hf
      refine Rt.path ok_M_settle 3 [0] rfl ⟨⟨⟨h5, h6⟩, h7⟩, trivial⟩ ?_
      have h8 : 0 ≤ i1 ∧ i1 < 41 := by
        by_cases q : 0 ≤ i1 ∧ i1 < 41
        · exact q
        · rw [if_neg q] at hf; cases hf
      rw [if_pos h8] at hf
      have h9 : ir (rA g 78 i1) := by
        by_cases q : ir (rA g 78 i1)
        · exact q
        · rw [if_neg q] at hf; cases hf
      rw [if_pos h9] at hf
      by_cases h10 : (rA g 78 i1) = 0
      · rw [if_pos h10] at hf
        refine Rt.path ok_M_settle 8 [1] rfl ⟨(ix_41 h8), ⟨h9, h10⟩, trivial⟩ ?_
        refine Rt.path ok_M_settle 4 [] rfl ⟨⟨(ix_41 h8), (show (0 : Int) = 0 ∨ (0 : Int) = 1 by decide)⟩, trivial⟩ ?_
        exact Rt.weak ((ih _ _ _ _) hf) ⟨rfl, rfl, rfl, trivial⟩
      · rw [if_neg h10] at hf
        refine Rt.path ok_M_settle 8 [0] rfl ⟨(ix_41 h8), ⟨h9, h10⟩, trivial⟩ ?_
        have h11 : 0 ≤ ((40 * i1) + i2) ∧ ((40 * i1) + i2) < 1640 := by
          by_cases q : 0 ≤ ((40 * i1) + i2) ∧ ((40 * i1) + i2) < 1640
          · exact q
          · rw [if_neg q] at hf; cases hf
        rw [if_pos h11] at hf
        have h12 : ir (rA g 76 ((40 * i1) + i2)) := by
          by_cases q : ir (rA g 76 ((40 * i1) + i2))
          · exact q
          · rw [if_neg q] at hf; cases hf
        rw [if_pos h12] at hf
        by_cases h13 : (rA g 76 ((40 * i1) + i2)) = 0
        · rw [if_pos h13] at hf
          refine Rt.path ok_M_settle 9 [1] rfl ⟨(ix_1640 h11), ⟨h12, h13⟩, trivial⟩ ?_
          refine Rt.path ok_M_settle 5 [] rfl ⟨⟨(ix_41 h8), (show (1 : Int) = 0 ∨ (1 : Int) = 1 by decide)⟩, trivial⟩ ?_
          exact Rt.weak ((ih _ _ _ _) hf) ⟨rfl, rfl, rfl, trivial⟩
        · rw [if_neg h13] at hf
          refine Rt.path ok_M_settle 9 [0] rfl ⟨(ix_1640 h11), ⟨h12, h13⟩, trivial⟩ ?_
          have h14 : 0 ≤ i2 ∧ i2 < 41 := by
            by_cases q : 0 ≤ i2 ∧ i2 < 41
            · exact q
            · rw [if_neg q] at hf; cases hf
          rw [if_pos h14] at hf
          have h15 : ir (rA g 78 i2) := by
            by_cases q : ir (rA g 78 i2)
            · exact q
            · rw [if_neg q] at hf; cases hf
          rw [if_pos h15] at hf
          by_cases h16 : (rA g 78 i2) = 0
          · rw [if_pos h16] at hf
            refine Rt.path ok_M_settle 5 [1] rfl ⟨(ix_41 h14), ⟨h15, h16⟩, trivial⟩ ?_
            refine Rt.path ok_M_settle 4 [] rfl ⟨⟨(ix_41 h8), (show (0 : Int) = 0 ∨ (0 : Int) = 1 by decide)⟩, trivial⟩ ?_
            exact Rt.weak ((ih _ _ _ _) hf) ⟨rfl, rfl, rfl, trivial⟩
          · rw [if_neg h16] at hf
            refine Rt.path ok_M_settle 5 [0] rfl ⟨(ix_41 h14), ⟨h15, h16⟩, trivial⟩ ?_
            refine Rt.path ok_M_settle 5 [] rfl ⟨⟨(ix_41 h8), (show (1 : Int) = 0 ∨ (1 : Int) = 1 by decide)⟩, trivial⟩ ?_
            exact Rt.weak ((ih _ _ _ _) hf) ⟨rfl, rfl, rfl, trivial⟩
    · rw [if_neg h7] at hf
      refine Rt.path ok_M_settle 3 [1] rfl ⟨⟨⟨h5, h6⟩, (Int.not_lt.mp h7)⟩, trivial⟩ ?_
      cases hf
      exact Rt.retV ok_M_settle rfl rfl
def f_M_settle_50 (a1 : Int) (g : G2) : Option (G2) :=
  if 0 ≤ a1 ∧ a1 < 41 then
  if (rI g 49 51) = 0 ∨ (rI g 49 51) = 1 then
  if ir (rI g 49 51) then
  if (rI g 49 51) = 0 then
    l_M_settle_50 20000 0 a1 0 (gA (gA g 77 a1 (rI g 49 51)) 78 a1 1)
  else
    l_M_settle_50 20000 0 a1 0 (gA (gA g 77 a1 (rI g 49 51)) 78 a1 0)
  else none
  else none
  else none
set_option maxHeartbeats 4000000 in
set_option maxRecDepth 100000 in
theorem c_M_settle_50 (d : Nat) (a1 : Int) (g : G2) (g' : G2) (hf : f_M_settle_50 a1 g = some g') : C2 d m_M_settle [vR 50, vI a1] g none g' := by
  unfold f_M_settle_50 at hf
  refine C2.of rfl rfl rfl (Nat.le_of_ble_eq_true rfl) ?_
  have h1 : 0 ≤ a1 ∧ a1 < 41 := by
    by_cases q : 0 ≤ a1 ∧ a1 < 41
    · exact q
    · rw [if_neg q] at hf; cases hf
  rw [if_pos h1] at hf
  have h2 : (rI g 49 51) = 0 ∨ (rI g 49 51) = 1 := by
    by_cases q : (rI g 49 51) = 0 ∨ (rI g 49 51) = 1
    · exact q
    · rw [if_neg q] at hf; cases hf
  rw [if_pos h2] at hf
  have h3 : ir (rI g 49 51) := by
    by_cases q : ir (rI g 49 51)
    · exact q
    · rw [if_neg q] at hf; cases hf
  rw [if_pos h3] at hf
  by_cases h4 : (rI g 49 51) = 0
  · rw [if_pos h4] at hf
    refine Rt.path ok_M_settle 12 [0] rfl ⟨⟨(ix_41 h1), h2⟩, ⟨h3, h4⟩, trivial⟩ ?_
    refine Rt.path ok_M_settle 5 [] rfl ⟨⟨(ix_41 h1), (show (1 : Int) = 0 ∨ (1 : Int) = 1 by decide)⟩, trivial⟩ ?_
    exact Rt.weak ((rl_M_settle_50 d _ _ _ _ _) hf) ⟨rfl, rfl, rfl, trivial⟩
  · rw [if_neg h4] at hf
    refine Rt.path ok_M_settle 12 [1] rfl ⟨⟨(ix_41 h1), h2⟩, ⟨h3, h4⟩, trivial⟩ ?_
    refine Rt.path ok_M_settle 4 [] rfl ⟨⟨(ix_41 h1), (show (0 : Int) = 0 ∨ (0 : Int) = 1 by decide)⟩, trivial⟩ ?_
    exact Rt.weak ((rl_M_settle_50 d _ _ _ _ _) hf) ⟨rfl, rfl, rfl, trivial⟩
def b_M_mark_50_0 (L : Nat → Int → Int → Int → Int → G2 → Option (G2)) (i1 : Int) (i2 : Int) (i3 : Int) (i4 : Int) (g : G2) : Option (G2) :=
  if ir i4 then
  if ir i2 then
  if i4 < i2 then
    if ir i3 then
    if i3 = 0 then
      if 0 ≤ (i1 + i4) ∧ (i1 + i4) < 960 then
      if 0 ≤ (rA g 60 (i1 + i4)) ∧ (rA g 60 (i1 + i4)) < 60 then
      if ir (rA g 80 (rA g 60 (i1 + i4))) then
      if (rA g 80 (rA g 60 (i1 + i4))) = 0 then
        if ir (rA g 54 (rA g 60 (i1 + i4))) then
        if (rA g 54 (rA g 60 (i1 + i4))) = 2 then
          L 0 i1 i2 i3 (i4 + 1) (gA g 80 (rA g 60 (i1 + i4)) 1)
        else
          L 0 i1 i2 i3 (i4 + 1) (gA g 80 (rA g 60 (i1 + i4)) 0)
        else none
      else
        L 0 i1 i2 i3 (i4 + 1) (gA g 80 (rA g 60 (i1 + i4)) 1)
      else none
      else none
      else none
    else
      if 0 ≤ i4 ∧ i4 < 24 then
      if 0 ≤ (rA g 79 i4) ∧ (rA g 79 i4) < 60 then
      if ir (rA g 80 (rA g 79 i4)) then
      if (rA g 80 (rA g 79 i4)) = 0 then
        if ir (rA g 54 (rA g 79 i4)) then
        if (rA g 54 (rA g 79 i4)) = 2 then
          L 0 i1 i2 i3 (i4 + 1) (gA g 80 (rA g 79 i4) 1)
        else
          L 0 i1 i2 i3 (i4 + 1) (gA g 80 (rA g 79 i4) 0)
        else none
      else
        L 0 i1 i2 i3 (i4 + 1) (gA g 80 (rA g 79 i4) 1)
      else none
      else none
      else none
    else none
  else
    some g
  else none
  else none
def l_M_mark_50 : Nat → Nat → Int → Int → Int → Int → G2 → Option (G2)
  | 0 => fun _ _ _ _ _ _ => none
  | n + 1 => fun t i1 i2 i3 i4 g => match t with
    | _ => b_M_mark_50_0 (l_M_mark_50 n) i1 i2 i3 i4 g
set_option maxHeartbeats 4000000 in
set_option maxRecDepth 100000 in
theorem rl_M_mark_50 (d : Nat) : ∀ (n : Nat) (i1 : Int) (i2 : Int) (i3 : Int) (i4 : Int) (g : G2) (g' : G2), (l_M_mark_50 n 0 i1 i2 i3 i4 g = some g' → Rt d m_M_mark 3 [some (vR 50), some (vI i1), some (vI i2), some (vI i3), some (vI i4), none] [] g none g') := by
  intro n
  induction n with
  | zero => intro i1 i2 i3 i4 g g'; exact fun hf => by cases hf
  | succ n ih =>
    intro i1 i2 i3 i4 g g'
    intro hf
    replace hf : b_M_mark_50_0 (l_M_mark_50 n) i1 i2 i3 i4 g = some g' := hf
    unfold b_M_mark_50_0 at hf
    have h1 : ir i4 := by
      by_cases q : ir i4
      · exact q
      · rw [if_neg q] at hf; cases hf
    rw [if_pos h1] at hf
    have h2 : ir i2 := by
      by_cases q : ir i2
      · exact q
      · rw [if_neg q] at hf; cases hf
    rw [if_pos h2] at hf
    by_cases h3 : i4 < i2
    · rw [if_pos h3] at hf
      refine Rt.path ok_M_mark 3 [0] rfl ⟨⟨⟨h1, h2⟩, h3⟩, trivial⟩ ?_
      have h4 : ir i3 := by
        by_cases q : ir i3
        · exact q
        · rw [if_neg q] at hf; cases hf
      rw [if_pos h4] at hf
      by_cases h5 : i3 = 0
      · rw [if_pos h5] at hf
        refine Rt.path ok_M_mark 2 [1] rfl ⟨⟨h4, h5⟩, trivial⟩ ?_
        have h6 : 0 ≤ (i1 + i4) ∧ (i1 + i4) < 960 := by
          by_cases q : 0 ≤ (i1 + i4) ∧ (i1 + i4) < 960
          · exact q
          · rw [if_neg q] at hf; cases hf
        rw [if_pos h6] at hf
        have h7 : 0 ≤ (rA g 60 (i1 + i4)) ∧ (rA g 60 (i1 + i4)) < 60 := by
          by_cases q : 0 ≤ (rA g 60 (i1 + i4)) ∧ (rA g 60 (i1 + i4)) < 60
          · exact q
          · rw [if_neg q] at hf; cases hf
        rw [if_pos h7] at hf
        have h8 : ir (rA g 80 (rA g 60 (i1 + i4))) := by
          by_cases q : ir (rA g 80 (rA g 60 (i1 + i4)))
          · exact q
          · rw [if_neg q] at hf; cases hf
        rw [if_pos h8] at hf
        by_cases h9 : (rA g 80 (rA g 60 (i1 + i4))) = 0
        · rw [if_pos h9] at hf
          refine Rt.path ok_M_mark 15 [0] rfl ⟨(ix_960 h6), (ix_60 h7), ⟨h8, h9⟩, trivial⟩ ?_
          have h10 : ir (rA g 54 (rA g 60 (i1 + i4))) := by
            by_cases q : ir (rA g 54 (rA g 60 (i1 + i4)))
            · exact q
            · rw [if_neg q] at hf; cases hf
          rw [if_pos h10] at hf
          by_cases h11 : (rA g 54 (rA g 60 (i1 + i4))) = 2
          · rw [if_pos h11] at hf
            refine Rt.path ok_M_mark 6 [0] rfl ⟨(ix_60 h7), ⟨⟨h10, (show ir 2 by decide)⟩, h11⟩, trivial⟩ ?_
            refine Rt.path ok_M_mark 5 [] rfl ⟨⟨(ix_60 h7), (show (1 : Int) = 0 ∨ (1 : Int) = 1 by decide)⟩, trivial⟩ ?_
            exact Rt.weak ((ih _ _ _ _ _ _) hf) ⟨rfl, rfl, rfl, rfl, rfl, trivial⟩
          · rw [if_neg h11] at hf
            refine Rt.path ok_M_mark 6 [1] rfl ⟨(ix_60 h7), ⟨⟨h10, (show ir 2 by decide)⟩, h11⟩, trivial⟩ ?_
            refine Rt.path ok_M_mark 4 [] rfl ⟨⟨(ix_60 h7), (show (0 : Int) = 0 ∨ (0 : Int) = 1 by decide)⟩, trivial⟩ ?_
            exact Rt.weak ((ih _ _ _ _ _ _) hf) ⟨rfl, rfl, rfl, rfl, rfl, trivial⟩
        · rw [if_neg h9] at hf
          refine Rt.path ok_M_mark 15 [1] rfl ⟨(ix_960 h6), (ix_60 h7), ⟨h8, h9⟩, trivial⟩ ?_
          refine Rt.path ok_M_mark 5 [] rfl ⟨⟨(ix_60 h7), (show (1 : Int) = 0 ∨ (1 : Int) = 1 by decide)⟩, trivial⟩ ?_
          exact Rt.weak ((ih _ _ _ _ _ _) hf) ⟨rfl, rfl, rfl, rfl, rfl, trivial⟩
      · rw [if_neg h5] at hf
        refine Rt.path ok_M_mark 2 [0] rfl ⟨⟨h4, h5⟩, trivial⟩ ?_
        have h12 : 0 ≤ i4 ∧ i4 < 24 := by
          by_cases q : 0 ≤ i4 ∧ i4 < 24
          · exact q
          · rw [if_neg q] at hf; cases hf
        rw [if_pos h12] at hf
        have h13 : 0 ≤ (rA g 79 i4) ∧ (rA g 79 i4) < 60 := by
          by_cases q : 0 ≤ (rA g 79 i4) ∧ (rA g 79 i4) < 60
          · exact q
          · rw [if_neg q] at hf; cases hf
        rw [if_pos h13] at hf
        have h14 : ir (rA g 80 (rA g 79 i4)) := by
          by_cases q : ir (rA g 80 (rA g 79 i4))
          · exact q
          · rw [if_neg q] at hf; cases hf
        rw [if_pos h14] at hf
        by_cases h15 : (rA g 80 (rA g 79 i4)) = 0
        · rw [if_pos h15] at hf
          refine Rt.path ok_M_mark 14 [0] rfl ⟨(ix_24 h12), (ix_60 h13), ⟨h14, h15⟩, trivial⟩ ?_
          have h16 : ir (rA g 54 (rA g 79 i4)) := by
            by_cases q : ir (rA g 54 (rA g 79 i4))
            · exact q
            · rw [if_neg q] at hf; cases hf
          rw [if_pos h16] at hf
          by_cases h17 : (rA g 54 (rA g 79 i4)) = 2
          · rw [if_pos h17] at hf
            refine Rt.path ok_M_mark 6 [0] rfl ⟨(ix_60 h13), ⟨⟨h16, (show ir 2 by decide)⟩, h17⟩, trivial⟩ ?_
            refine Rt.path ok_M_mark 5 [] rfl ⟨⟨(ix_60 h13), (show (1 : Int) = 0 ∨ (1 : Int) = 1 by decide)⟩, trivial⟩ ?_
            exact Rt.weak ((ih _ _ _ _ _ _) hf) ⟨rfl, rfl, rfl, rfl, rfl, trivial⟩
          · rw [if_neg h17] at hf
            refine Rt.path ok_M_mark 6 [1] rfl ⟨(ix_60 h13), ⟨⟨h16, (show ir 2 by decide)⟩, h17⟩, trivial⟩ ?_
            refine Rt.path ok_M_mark 4 [] rfl ⟨⟨(ix_60 h13), (show (0 : Int) = 0 ∨ (0 : Int) = 1 by decide)⟩, trivial⟩ ?_
            exact Rt.weak ((ih _ _ _ _ _ _) hf) ⟨rfl, rfl, rfl, rfl, rfl, trivial⟩
        · rw [if_neg h15] at hf
          refine Rt.path ok_M_mark 14 [1] rfl ⟨(ix_24 h12), (ix_60 h13), ⟨h14, h15⟩, trivial⟩ ?_
          refine Rt.path ok_M_mark 5 [] rfl ⟨⟨(ix_60 h13), (show (1 : Int) = 0 ∨ (1 : Int) = 1 by decide)⟩, trivial⟩ ?_
          exact Rt.weak ((ih _ _ _ _ _ _) hf) ⟨rfl, rfl, rfl, rfl, rfl, trivial⟩
    · rw [if_neg h3] at hf
      refine Rt.path ok_M_mark 3 [1] rfl ⟨⟨⟨h1, h2⟩, (Int.not_lt.mp h3)⟩, trivial⟩ ?_
      cases hf
      exact Rt.retV ok_M_mark rfl rfl
def f_M_mark_50 (a1 : Int) (a2 : Int) (a3 : Int) (g : G2) : Option (G2) :=
  l_M_mark_50 20000 0 a1 a2 a3 0 g
set_option maxHeartbeats 4000000 in
set_option maxRecDepth 100000 in
theorem c_M_mark_50 (d : Nat) (a1 : Int) (a2 : Int) (a3 : Int) (g : G2) (g' : G2) (hf : f_M_mark_50 a1 a2 a3 g = some g') : C2 d m_M_mark [vR 50, vI a1, vI a2, vI a3] g none g' := by
  unfold f_M_mark_50 at hf
  refine C2.of rfl rfl rfl (Nat.le_of_ble_eq_true rfl) ?_
  refine Rt.path ok_M_mark 2 [] rfl trivial ?_
  exact Rt.weak ((rl_M_mark_50 d _ _ _ _ _ _ _) hf) ⟨rfl, rfl, rfl, rfl, rfl, trivial⟩
