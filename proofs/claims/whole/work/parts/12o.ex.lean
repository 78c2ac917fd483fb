def b_M_read_50_0 (L : Nat → G2 → Option (Int × G2))  (g : G2) : Option (Int × G2) :=
  if ir (rI g 49 6) then
  if (rI g 49 6) = 0 then
    bd (f_M_come_50 g) fun r4 g4 =>
    if ir r4 then
    if r4 = 0 then
      L 1 g4
    else
      (f_M_readStatement_50 g4).bind fun g7 =>
      L 0 g7
    else none
  else
    L 1 g
  else none
def b_M_read_50_1 (L : Nat → G2 → Option (Int × G2))  (g : G2) : Option (Int × G2) :=
  if ir (rI g 49 6) then
  if (rI g 49 6) = 0 then
    if ir (rI g 49 14) then
    if 0 < (rI g 49 14) then
      (f_M_fail_50 (-2) (rI g 49 4) g).bind fun g12 =>
      L 2 g12
    else
      L 2 g
    else none
  else
    L 2 g
  else none
def b_M_read_50_2 (L : Nat → G2 → Option (Int × G2))  (g : G2) : Option (Int × G2) :=
  if ir (rI g 49 6) then
  if (rI g 49 6) = 0 then
    some ((rI g 49 27), g)
  else
    some ((rI g 49 6), g)
  else none
def l_M_read_50 : Nat → Nat → G2 → Option (Int × G2)
  | 0 => fun _ _ => none
  | n + 1 => fun t g => match t with
    | 0 => b_M_read_50_0 (l_M_read_50 n) g
    | 1 => b_M_read_50_1 (l_M_read_50 n) g
    | _ => b_M_read_50_2 (l_M_read_50 n) g
set_option maxHeartbeats 4000000 in
set_option maxRecDepth 100000 in
theorem rl_M_read_50 (d : Nat) : ∀ (n : Nat)  (g : G2) (r : Int) (g' : G2), (l_M_read_50 n 0 g = some (r, g') → Rt (d + 10) m_M_read 44 [some (vR 50)] [] g (some (vI r)) g') ∧ (l_M_read_50 n 1 g = some (r, g') → Rt (d + 10) m_M_read 65 [some (vR 50)] [] g (some (vI r)) g') ∧ (l_M_read_50 n 2 g = some (r, g') → Rt (d + 10) m_M_read 89 [some (vR 50)] [] g (some (vI r)) g') := by
  intro n
  induction n with
  | zero => intro  g r g'; exact ⟨fun hf => (by cases hf), fun hf => (by cases hf), fun hf => (by cases hf)⟩
  | succ n ih =>
    intro  g r g'
    refine ⟨?_, ?_, ?_⟩
    · intro hf
      replace hf : b_M_read_50_0 (l_M_read_50 n) g = some (r, g') := hf
      unfold b_M_read_50_0 at hf
      have h2 : ir (rI g 49 6) := by
        by_cases q : ir (rI g 49 6)
        · exact q
        · rw [if_neg q] at hf; cases hf
      rw [if_pos h2] at hf
      by_cases h3 : (rI g 49 6) = 0
      · rw [if_pos h3] at hf
        refine Rt.path ok_M_read 3 [0] rfl ⟨⟨h2, h3⟩, trivial⟩ ?_
        obtain ⟨r4, g4, e4, hf⟩ := bd_inv hf
        refine Rt.path ok_M_read 1 [] rfl trivial ?_
        refine Rt.callV ok_M_read rfl ml_M_161 [] cf_M_come rfl rfl (c_M_come_50 (d + 7) _ _ _ e4) (Nat.le_of_ble_eq_true rfl) ?_
        have h5 : ir r4 := by
          by_cases q : ir r4
          · exact q
          · rw [if_neg q] at hf; cases hf
        rw [if_pos h5] at hf
        by_cases h6 : r4 = 0
        · rw [if_pos h6] at hf
          refine Rt.path ok_M_read 1 [1] rfl ⟨⟨h5, h6⟩, trivial⟩ ?_
          exact Rt.weak ((ih _ _ _).2.1 hf) ⟨rfl, trivial⟩
        · rw [if_neg h6] at hf
          refine Rt.path ok_M_read 1 [0] rfl ⟨⟨h5, h6⟩, trivial⟩ ?_
          obtain ⟨g7, e7, hf⟩ := Option.bind_eq_some_iff.mp hf
          refine Rt.path ok_M_read 1 [] rfl trivial ?_
          refine Rt.callV ok_M_read rfl ml_M_359 [] cf_M_readStatement rfl rfl (c_M_readStatement_50 d _ _ e7) (Nat.le_of_ble_eq_true rfl) ?_
          refine Rt.path ok_M_read 1 [] rfl trivial ?_
          exact Rt.weak ((ih _ _ _).1 hf) ⟨rfl, trivial⟩
      · rw [if_neg h3] at hf
        refine Rt.path ok_M_read 3 [1] rfl ⟨⟨h2, h3⟩, trivial⟩ ?_
        exact Rt.weak ((ih _ _ _).2.1 hf) ⟨rfl, trivial⟩
    · intro hf
      replace hf : b_M_read_50_1 (l_M_read_50 n) g = some (r, g') := hf
      unfold b_M_read_50_1 at hf
      have h8 : ir (rI g 49 6) := by
        by_cases q : ir (rI g 49 6)
        · exact q
        · rw [if_neg q] at hf; cases hf
      rw [if_pos h8] at hf
      by_cases h9 : (rI g 49 6) = 0
      · rw [if_pos h9] at hf
        refine Rt.path ok_M_read 3 [0] rfl ⟨⟨h8, h9⟩, trivial⟩ ?_
        have h10 : ir (rI g 49 14) := by
          by_cases q : ir (rI g 49 14)
          · exact q
          · rw [if_neg q] at hf; cases hf
        rw [if_pos h10] at hf
        by_cases h11 : 0 < (rI g 49 14)
        · rw [if_pos h11] at hf
          refine Rt.path ok_M_read 3 [0] rfl ⟨⟨h10, h11⟩, trivial⟩ ?_
          obtain ⟨g12, e12, hf⟩ := Option.bind_eq_some_iff.mp hf
          refine Rt.path ok_M_read 4 [] rfl trivial ?_
          refine Rt.callV ok_M_read rfl ml_M_157 [vI _, vI _] cf_M_fail rfl rfl (c_M_fail_50 (d + 9) _ _ _ _ e12) (Nat.le_of_ble_eq_true rfl) ?_
          exact Rt.weak ((ih _ _ _).2.2 hf) ⟨rfl, trivial⟩
        · rw [if_neg h11] at hf
          refine Rt.path ok_M_read 3 [1] rfl ⟨⟨h10, (Int.not_lt.mp h11)⟩, trivial⟩ ?_
          exact Rt.weak ((ih _ _ _).2.2 hf) ⟨rfl, trivial⟩
      · rw [if_neg h9] at hf
        refine Rt.path ok_M_read 3 [1] rfl ⟨⟨h8, h9⟩, trivial⟩ ?_
        exact Rt.weak ((ih _ _ _).2.2 hf) ⟨rfl, trivial⟩
    · intro hf
      replace hf : b_M_read_50_2 (l_M_read_50 n) g = some (r, g') := hf
      unfold b_M_read_50_2 at hf
      have h13 : ir (rI g 49 6) := by
        by_cases q : ir (rI g 49 6)
        · exact q
        · rw [if_neg q] at hf; cases hf
      rw [if_pos h13] at hf
      by_cases h14 : (rI g 49 6) = 0
      · rw [if_pos h14] at hf
        refine Rt.path ok_M_read 3 [0] rfl ⟨⟨h13, h14⟩, trivial⟩ ?_
        cases hf
        refine Rt.path ok_M_read 3 [] rfl trivial ?_
        exact Rt.retI ok_M_read rfl rfl
      · rw [if_neg h14] at hf
        refine Rt.path ok_M_read 3 [1] rfl ⟨⟨h13, h14⟩, trivial⟩ ?_
        cases hf
        refine Rt.path ok_M_read 2 [] rfl trivial ?_
        exact Rt.retI ok_M_read rfl rfl
def f_M_read_50  (g : G2) : Option (Int × G2) :=
  (f_M_findWords_50 g).bind fun g1 =>
  l_M_read_50 20000 0 (gI (gI (gI (gI (gI (gI (gI (gI g1 49 5 0) 49 6 0) 49 7 (-1)) 49 8 0) 49 14 0) 49 15 0) 49 23 0) 49 27 0)
set_option maxHeartbeats 4000000 in
set_option maxRecDepth 100000 in
theorem c_M_read_50 (d : Nat)  (g : G2) (r : Int) (g' : G2) (hf : f_M_read_50 g = some (r, g')) : C2 (d + 10) m_M_read [vR 50] g (some (vI r)) g' := by
  unfold f_M_read_50 at hf
  refine C2.of rfl rfl rfl (Nat.le_of_ble_eq_true rfl) ?_
  obtain ⟨g1, e1, hf⟩ := Option.bind_eq_some_iff.mp hf
  refine Rt.path ok_M_read 1 [] rfl trivial ?_
  refine Rt.callV ok_M_read rfl ml_M_356 [] cf_M_findWords rfl rfl (c_M_findWords_50 (d + 9) _ _ e1) (Nat.le_of_ble_eq_true rfl) ?_
  refine Rt.path ok_M_read 24 [] rfl trivial ?_
  exact Rt.weak ((rl_M_read_50 d _ _ _ _).1 hf) ⟨rfl, trivial⟩
def f_M_place_50  (g : G2) : Option (Int × G2) :=
  some ((rI g 49 7), g)
set_option maxHeartbeats 4000000 in
set_option maxRecDepth 100000 in
theorem c_M_place_50 (d : Nat)  (g : G2) (r : Int) (g' : G2) (hf : f_M_place_50 g = some (r, g')) : C2 d m_M_place [vR 50] g (some (vI r)) g' := by
  unfold f_M_place_50 at hf
  refine C2.of rfl rfl rfl (Nat.le_of_ble_eq_true rfl) ?_
  cases hf
  refine Rt.path ok_M_place 2 [] rfl trivial ?_
  exact Rt.retI ok_M_place rfl rfl
def b_M_countNames_50_0 (L : Nat → Int → Int → Int → G2 → Option (Int × G2)) (i1 : Int) (i2 : Int) (i3 : Int) (g : G2) : Option (Int × G2) :=
  if ir i3 then
  if ir (rI g 49 8) then
  if i3 < (rI g 49 8) then
    if 0 ≤ i3 ∧ i3 < 60 then
    if ir (rA g 54 i3) then
    if ir i1 then
    if (rA g 54 i3) = i1 then
      L 0 i1 (i2 + 1) (i3 + 1) g
    else
      L 0 i1 i2 (i3 + 1) g
    else none
    else none
    else none
  else
    some (i2, g)
  else none
  else none
def l_M_countNames_50 : Nat → Nat → Int → Int → Int → G2 → Option (Int × G2)
  | 0 => fun _ _ _ _ _ => none
  | n + 1 => fun t i1 i2 i3 g => match t with
    | _ => b_M_countNames_50_0 (l_M_countNames_50 n) i1 i2 i3 g
set_option maxHeartbeats 4000000 in
set_option maxRecDepth 100000 in
theorem rl_M_countNames_50 (d : Nat) : ∀ (n : Nat) (i1 : Int) (i2 : Int) (i3 : Int) (g : G2) (r : Int) (g' : G2), (l_M_countNames_50 n 0 i1 i2 i3 g = some (r, g') → Rt d m_M_countNames 4 [some (vR 50), some (vI i1), some (vI i2), some (vI i3)] [] g (some (vI r)) g') := by
  intro n
  induction n with
  | zero => intro i1 i2 i3 g r g'; exact fun hf => by cases hf
  | succ n ih =>
    intro i1 i2 i3 g r g'
    intro hf
    replace hf : b_M_countNames_50_0 (l_M_countNames_50 n) i1 i2 i3 g = some (r, g') := hf
    unfold b_M_countNames_50_0 at hf
    have h1 : ir i3 := by
      by_cases q : ir i3
      · exact q
      · rw [if_neg q] at hf; cases hf
    rw [if_pos h1] at hf
    have h2 : ir (rI g 49 8) := by
      by_cases q : ir (rI g 49 8)
      · exact q
      · rw [if_neg q] at hf; cases hf
    rw [if_pos h2] at hf
    by_cases h3 : i3 < (rI g 49 8)
    · rw [if_pos h3] at hf
      refine Rt.path ok_M_countNames 4 [0] rfl ⟨⟨⟨h1, h2⟩, h3⟩, trivial⟩ ?_
      have h4 : 0 ≤ i3 ∧ i3 < 60 := by
        by_cases q : 0 ≤ i3 ∧ i3 < 60
        · exact q
        · rw [if_neg q] at hf; cases hf
      rw [if_pos h4] at hf
      have h5 : ir (rA g 54 i3) := by
        by_cases q : ir (rA g 54 i3)
        · exact q
        · rw [if_neg q] at hf; cases hf
      rw [if_pos h5] at hf
      have h6 : ir i1 := by
        by_cases q : ir i1
        · exact q
        · rw [if_neg q] at hf; cases hf
      rw [if_pos h6] at hf
      by_cases h7 : (rA g 54 i3) = i1
      · rw [if_pos h7] at hf
        refine Rt.path ok_M_countNames 6 [0] rfl ⟨(ix_60 h4), ⟨⟨h5, h6⟩, h7⟩, trivial⟩ ?_
        refine Rt.path ok_M_countNames 7 [] rfl trivial ?_
        exact Rt.weak ((ih _ _ _ _ _ _) hf) ⟨rfl, rfl, rfl, rfl, trivial⟩
      · rw [if_neg h7] at hf
        refine Rt.path ok_M_countNames 6 [1] rfl ⟨(ix_60 h4), ⟨⟨h5, h6⟩, h7⟩, trivial⟩ ?_
        refine Rt.path ok_M_countNames 4 [] rfl trivial ?_
        exact Rt.weak ((ih _ _ _ _ _ _) hf) ⟨rfl, rfl, rfl, rfl, trivial⟩
    · rw [if_neg h3] at hf
      refine Rt.path ok_M_countNames 4 [1] rfl ⟨⟨⟨h1, h2⟩, (Int.not_lt.mp h3)⟩, trivial⟩ ?_
      cases hf
      refine Rt.path ok_M_countNames 1 [] rfl trivial ?_
      exact Rt.retI ok_M_countNames rfl rfl
def f_M_countNames_50 (a1 : Int) (g : G2) : Option (Int × G2) :=
  l_M_countNames_50 20000 0 a1 0 0 g
set_option maxHeartbeats 4000000 in
set_option maxRecDepth 100000 in
theorem c_M_countNames_50 (d : Nat) (a1 : Int) (g : G2) (r : Int) (g' : G2) (hf : f_M_countNames_50 a1 g = some (r, g')) : C2 d m_M_countNames [vR 50, vI a1] g (some (vI r)) g' := by
  unfold f_M_countNames_50 at hf
  refine C2.of rfl rfl rfl (Nat.le_of_ble_eq_true rfl) ?_
  refine Rt.path ok_M_countNames 4 [] rfl trivial ?_
  exact Rt.weak ((rl_M_countNames_50 d _ _ _ _ _ _ _) hf) ⟨rfl, rfl, rfl, rfl, trivial⟩
def b_M_count_50_0 (L : Nat → Int → Int → Int → G2 → Option (Int × G2)) (i1 : Int) (i2 : Int) (i3 : Int) (g : G2) : Option (Int × G2) :=
  if ir i3 then
  if ir (rI g 49 15) then
  if i3 < (rI g 49 15) then
    if ir i1 then
    if i1 = 6 then
      if 0 ≤ i3 ∧ i3 < 40 then
      if ir (rA g 58 i3) then
      if (rA g 58 i3) = 7 then
        if 0 ≤ (rA g 64 i3) ∧ (rA g 64 i3) < 41 then
        if ir (rA g 77 (rA g 64 i3)) then
        if (rA g 77 (rA g 64 i3)) = 0 then
          L 0 i1 i2 (i3 + 1) g
        else
          L 0 i1 (i2 + 1) (i3 + 1) g
        else none
        else none
      else
        L 0 i1 i2 (i3 + 1) g
      else none
      else none
    else
      if 0 ≤ i3 ∧ i3 < 40 then
      if ir (rA g 58 i3) then
      if ir (i1 + 2) then
      if (rA g 58 i3) = (i1 + 2) then
        L 0 i1 (i2 + 1) (i3 + 1) g
      else
        L 0 i1 i2 (i3 + 1) g
      else none
      else none
      else none
    else none
  else
    some (i2, g)
  else none
  else none
def l_M_count_50 : Nat → Nat → Int → Int → Int → G2 → Option (Int × G2)
  | 0 => fun _ _ _ _ _ => none
  | n + 1 => fun t i1 i2 i3 g => match t with
    | _ => b_M_count_50_0 (l_M_count_50 n) i1 i2 i3 g
set_option maxHeartbeats 4000000 in
set_option maxRecDepth 100000 in
theorem rl_M_count_50 (d : Nat) : ∀ (n : Nat) (i1 : Int) (i2 : Int) (i3 : Int) (g : G2) (r : Int) (g' : G2), (l_M_count_50 n 0 i1 i2 i3 g = some (r, g') → Rt (d + 1) m_M_count 29 [some (vR 50), some (vI i1), some (vI i2), some (vI i3), none] [] g (some (vI r)) g') := by
  intro n
  induction n with
  | zero => intro i1 i2 i3 g r g'; exact fun hf => by cases hf
  | succ n ih =>
    intro i1 i2 i3 g r g'
    intro hf
    replace hf : b_M_count_50_0 (l_M_count_50 n) i1 i2 i3 g = some (r, g') := hf
    unfold b_M_count_50_0 at hf
    have h6 : ir i3 := by
      by_cases q : ir i3
      · exact q
      · rw [if_neg q] at hf; cases hf
    rw [if_pos h6] at hf
    have h7 : ir (rI g 49 15) := by
      by_cases q : ir (rI g 49 15)
      · exact q
      · rw [if_neg q] at hf; cases hf
    rw [if_pos h7] at hf
    by_cases h8 : i3 < (rI g 49 15)
    · rw [if_pos h8] at hf
      refine Rt.path ok_M_count 4 [0] rfl ⟨⟨⟨h6, h7⟩, h8⟩, trivial⟩ ?_
      have h9 : ir i1 := by
        by_cases q : ir i1
        · exact q
        · rw [if_neg q] at hf; cases hf
      rw [if_pos h9] at hf
      by_cases h10 : i1 = 6
      · rw [if_pos h10] at hf
        refine Rt.path ok_M_count 3 [0] rfl ⟨⟨⟨h9, (show ir 6 by decide)⟩, h10⟩, trivial⟩ ?_
        have h11 : 0 ≤ i3 ∧ i3 < 40 := by
          by_cases q : 0 ≤ i3 ∧ i3 < 40
          · exact q
          · rw [if_neg q] at hf; cases hf
        rw [if_pos h11] at hf
        have h12 : ir (rA g 58 i3) := by
          by_cases q : ir (rA g 58 i3)
          · exact q
          · rw [if_neg q] at hf; cases hf
        rw [if_pos h12] at hf
        by_cases h13 : (rA g 58 i3) = 7
        · rw [if_pos h13] at hf
          refine Rt.path ok_M_count 6 [0] rfl ⟨(ix_40 h11), ⟨⟨h12, (show ir 7 by decide)⟩, h13⟩, trivial⟩ ?_
          have h14 : 0 ≤ (rA g 64 i3) ∧ (rA g 64 i3) < 41 := by
            by_cases q : 0 ≤ (rA g 64 i3) ∧ (rA g 64 i3) < 41
            · exact q
            · rw [if_neg q] at hf; cases hf
          rw [if_pos h14] at hf
          have h15 : ir (rA g 77 (rA g 64 i3)) := by
            by_cases q : ir (rA g 77 (rA g 64 i3))
            · exact q
            · rw [if_neg q] at hf; cases hf
          rw [if_pos h15] at hf
          by_cases h16 : (rA g 77 (rA g 64 i3)) = 0
          · rw [if_pos h16] at hf
            refine Rt.path ok_M_count 8 [1] rfl ⟨(ix_40 h11), (ix_41 h14), ⟨h15, h16⟩, trivial⟩ ?_
            refine Rt.path ok_M_count 9 [1] rfl ⟨⟨(show ir 0 by decide), (show (0 : Int) = (0 : Int) by decide)⟩, trivial⟩ ?_
            exact Rt.weak ((ih _ _ _ _ _ _) hf) ⟨rfl, rfl, rfl, rfl, trivial⟩
          · rw [if_neg h16] at hf
            refine Rt.path ok_M_count 8 [0] rfl ⟨(ix_40 h11), (ix_41 h14), ⟨h15, h16⟩, trivial⟩ ?_
            refine Rt.path ok_M_count 12 [0] rfl ⟨⟨(show ir 1 by decide), (show ¬ (1 : Int) = (0 : Int) by decide)⟩, trivial⟩ ?_
            exact Rt.weak ((ih _ _ _ _ _ _) hf) ⟨rfl, rfl, rfl, rfl, trivial⟩
        · rw [if_neg h13] at hf
          refine Rt.path ok_M_count 6 [1] rfl ⟨(ix_40 h11), ⟨⟨h12, (show ir 7 by decide)⟩, h13⟩, trivial⟩ ?_
          refine Rt.path ok_M_count 9 [1] rfl ⟨⟨(show ir 0 by decide), (show (0 : Int) = (0 : Int) by decide)⟩, trivial⟩ ?_
          exact Rt.weak ((ih _ _ _ _ _ _) hf) ⟨rfl, rfl, rfl, rfl, trivial⟩
      · rw [if_neg h10] at hf
        refine Rt.path ok_M_count 3 [1] rfl ⟨⟨⟨h9, (show ir 6 by decide)⟩, h10⟩, trivial⟩ ?_
        have h17 : 0 ≤ i3 ∧ i3 < 40 := by
          by_cases q : 0 ≤ i3 ∧ i3 < 40
          · exact q
          · rw [if_neg q] at hf; cases hf
        rw [if_pos h17] at hf
        have h18 : ir (rA g 58 i3) := by
          by_cases q : ir (rA g 58 i3)
          · exact q
          · rw [if_neg q] at hf; cases hf
        rw [if_pos h18] at hf
        have h19 : ir (i1 + 2) := by
          by_cases q : ir (i1 + 2)
          · exact q
          · rw [if_neg q] at hf; cases hf
        rw [if_pos h19] at hf
        by_cases h20 : (rA g 58 i3) = (i1 + 2)
        · rw [if_pos h20] at hf
          refine Rt.path ok_M_count 8 [0] rfl ⟨(ix_40 h17), ⟨⟨h18, h19⟩, h20⟩, trivial⟩ ?_
          refine Rt.path ok_M_count 12 [0] rfl ⟨⟨(show ir 1 by decide), (show ¬ (1 : Int) = (0 : Int) by decide)⟩, trivial⟩ ?_
          exact Rt.weak ((ih _ _ _ _ _ _) hf) ⟨rfl, rfl, rfl, rfl, trivial⟩
        · rw [if_neg h20] at hf
          refine Rt.path ok_M_count 8 [1] rfl ⟨(ix_40 h17), ⟨⟨h18, h19⟩, h20⟩, trivial⟩ ?_
          refine Rt.path ok_M_count 8 [1] rfl ⟨⟨(show ir 0 by decide), (show (0 : Int) = (0 : Int) by decide)⟩, trivial⟩ ?_
          exact Rt.weak ((ih _ _ _ _ _ _) hf) ⟨rfl, rfl, rfl, rfl, trivial⟩
    · rw [if_neg h8] at hf
      refine Rt.path ok_M_count 4 [1] rfl ⟨⟨⟨h6, h7⟩, (Int.not_lt.mp h8)⟩, trivial⟩ ?_
      cases hf
      refine Rt.path ok_M_count 1 [] rfl trivial ?_
      exact Rt.retI ok_M_count rfl rfl
def f_M_count_50 (a1 : Int) (g : G2) : Option (Int × G2) :=
  if ir a1 then
  if a1 < 0 then
    some ((-1), g)
  else
    if 6 < a1 then
      some ((-1), g)
    else
      if a1 < 2 then
        bd (f_M_countNames_50 (a1 + 1) g) fun r5 g5 =>
        some (r5, g5)
      else
        l_M_count_50 20000 0 a1 0 0 g
  else none
set_option maxHeartbeats 4000000 in
set_option maxRecDepth 100000 in
theorem c_M_count_50 (d : Nat) (a1 : Int) (g : G2) (r : Int) (g' : G2) (hf : f_M_count_50 a1 g = some (r, g')) : C2 (d + 1) m_M_count [vR 50, vI a1] g (some (vI r)) g' := by
  unfold f_M_count_50 at hf
  refine C2.of rfl rfl rfl (Nat.le_of_ble_eq_true rfl) ?_
  have h1 : ir a1 := by
    by_cases q : ir a1
    · exact q
    · rw [if_neg q] at hf; cases hf
  rw [if_pos h1] at hf
  by_cases h2 : a1 < 0
  · rw [if_pos h2] at hf
    refine Rt.path ok_M_count 2 [1] rfl ⟨⟨h1, h2⟩, trivial⟩ ?_
    cases hf
    refine Rt.path ok_M_count 1 [] rfl trivial ?_
    exact Rt.retI ok_M_count rfl rfl
  · rw [if_neg h2] at hf
    refine Rt.path ok_M_count 2 [0] rfl ⟨⟨h1, (Int.not_lt.mp h2)⟩, trivial⟩ ?_
    by_cases h3 : 6 < a1
    · rw [if_pos h3] at hf
      refine Rt.path ok_M_count 3 [0] rfl ⟨⟨⟨h1, (show ir 6 by decide)⟩, h3⟩, trivial⟩ ?_
      cases hf
      refine Rt.path ok_M_count 1 [] rfl trivial ?_
      exact Rt.retI ok_M_count rfl rfl
    · rw [if_neg h3] at hf
      refine Rt.path ok_M_count 3 [1] rfl ⟨⟨⟨h1, (show ir 6 by decide)⟩, (Int.not_lt.mp h3)⟩, trivial⟩ ?_
      by_cases h4 : a1 < 2
      · rw [if_pos h4] at hf
        refine Rt.path ok_M_count 3 [0] rfl ⟨⟨⟨h1, (show ir 2 by decide)⟩, h4⟩, trivial⟩ ?_
        obtain ⟨r5, g5, e5, hf⟩ := bd_inv hf
        refine Rt.path ok_M_count 4 [] rfl trivial ?_
        refine Rt.callV ok_M_count rfl ml_M_362 [vI _] cf_M_countNames rfl rfl (c_M_countNames_50 d _ _ _ _ e5) (Nat.le_of_ble_eq_true rfl) ?_
        cases hf
        exact Rt.retI ok_M_count rfl rfl
      · rw [if_neg h4] at hf
        refine Rt.path ok_M_count 3 [1] rfl ⟨⟨⟨h1, (show ir 2 by decide)⟩, (Int.not_lt.mp h4)⟩, trivial⟩ ?_
        refine Rt.path ok_M_count 4 [] rfl trivial ?_
        exact Rt.weak ((rl_M_count_50 d _ _ _ _ _ _ _) hf) ⟨rfl, rfl, rfl, rfl, trivial⟩
def f_M_isAssertion_50 (a1 : Int) (g : G2) : Option (Int × G2) :=
  if ir a1 then
  if a1 < 0 then
    some (0, g)
  else
    if ir (rI g 49 27) then
    if a1 < (rI g 49 27) then
      some (1, g)
    else
      some (0, g)
    else none
  else none
set_option maxHeartbeats 4000000 in
set_option maxRecDepth 100000 in
theorem c_M_isAssertion_50 (d : Nat) (a1 : Int) (g : G2) (r : Int) (g' : G2) (hf : f_M_isAssertion_50 a1 g = some (r, g')) : C2 d m_M_isAssertion [vR 50, vI a1] g (some (vI r)) g' := by
  unfold f_M_isAssertion_50 at hf
  refine C2.of rfl rfl rfl (Nat.le_of_ble_eq_true rfl) ?_
  have h1 : ir a1 := by
    by_cases q : ir a1
    · exact q
    · rw [if_neg q] at hf; cases hf
  rw [if_pos h1] at hf
  by_cases h2 : a1 < 0
  · rw [if_pos h2] at hf
    refine Rt.path ok_M_isAssertion 2 [1] rfl ⟨⟨h1, h2⟩, trivial⟩ ?_
    cases hf
    refine Rt.path ok_M_isAssertion 1 [] rfl trivial ?_
    exact Rt.retZ ok_M_isAssertion (show (0 : Int) = 0 ∨ (0 : Int) = 1 by decide) rfl rfl
  · rw [if_neg h2] at hf
    refine Rt.path ok_M_isAssertion 2 [0] rfl ⟨⟨h1, (Int.not_lt.mp h2)⟩, trivial⟩ ?_
    have h3 : ir (rI g 49 27) := by
      by_cases q : ir (rI g 49 27)
      · exact q
      · rw [if_neg q] at hf; cases hf
    rw [if_pos h3] at hf
    by_cases h4 : a1 < (rI g 49 27)
    · rw [if_pos h4] at hf
      refine Rt.path ok_M_isAssertion 4 [0] rfl ⟨⟨⟨h1, h3⟩, h4⟩, trivial⟩ ?_
      cases hf
      refine Rt.path ok_M_isAssertion 2 [] rfl trivial ?_
      exact Rt.retZ ok_M_isAssertion (show (1 : Int) = 0 ∨ (1 : Int) = 1 by decide) rfl rfl
    · rw [if_neg h4] at hf
      refine Rt.path ok_M_isAssertion 4 [1] rfl ⟨⟨⟨h1, h3⟩, (Int.not_lt.mp h4)⟩, trivial⟩ ?_
      cases hf
      refine Rt.path ok_M_isAssertion 1 [] rfl trivial ?_
      exact Rt.retZ ok_M_isAssertion (show (0 : Int) = 0 ∨ (0 : Int) = 1 by decide) rfl rfl
def f_M_label_50 (a1 : Int) (g : G2) : Option (Int64 × G2) :=
  bd (f_M_isAssertion_50 a1 g) fun r1 g1 =>
  if ir r1 then
  if r1 = 0 then
    some ((Int64.ofNat 18446744073709551615), g1)
  else
    if 0 ≤ a1 ∧ a1 < 41 then
    if 0 ≤ (rA g1 68 a1) ∧ (rA g1 68 a1) < 40 then
    if 0 ≤ (rA g1 59 (rA g1 68 a1)) ∧ (rA g1 59 (rA g1 68 a1)) < 60 then
    some ((rB g1 53 (rA g1 59 (rA g1 68 a1))), g1)
    else none
    else none
    else none
  else none
set_option maxHeartbeats 4000000 in
set_option maxRecDepth 100000 in
theorem c_M_label_50 (d : Nat) (a1 : Int) (g : G2) (r : Int64) (g' : G2) (hf : f_M_label_50 a1 g = some (r, g')) : C2 (d + 1) m_M_label [vR 50, vI a1] g (some (vL r)) g' := by
  unfold f_M_label_50 at hf
  refine C2.of rfl rfl rfl (Nat.le_of_ble_eq_true rfl) ?_
  obtain ⟨r1, g1, e1, hf⟩ := bd_inv hf
  refine Rt.path ok_M_label 2 [] rfl trivial ?_
  refine Rt.callV ok_M_label rfl ml_M_365 [vI _] cf_M_isAssertion rfl rfl (c_M_isAssertion_50 d _ _ _ _ e1) (Nat.le_of_ble_eq_true rfl) ?_
  have h2 : ir r1 := by
    by_cases q : ir r1
    · exact q
    · rw [if_neg q] at hf; cases hf
  rw [if_pos h2] at hf
  by_cases h3 : r1 = 0
  · rw [if_pos h3] at hf
    refine Rt.path ok_M_label 1 [1] rfl ⟨⟨h2, h3⟩, trivial⟩ ?_
    cases hf
    refine Rt.path ok_M_label 1 [] rfl trivial ?_
    exact Rt.retL ok_M_label rfl rfl
  · rw [if_neg h3] at hf
    refine Rt.path ok_M_label 1 [0] rfl ⟨⟨h2, h3⟩, trivial⟩ ?_
    have h4 : 0 ≤ a1 ∧ a1 < 41 := by
      by_cases q : 0 ≤ a1 ∧ a1 < 41
      · exact q
      · rw [if_neg q] at hf; cases hf
    rw [if_pos h4] at hf
    have h5 : 0 ≤ (rA g1 68 a1) ∧ (rA g1 68 a1) < 40 := by
      by_cases q : 0 ≤ (rA g1 68 a1) ∧ (rA g1 68 a1) < 40
      · exact q
      · rw [if_neg q] at hf; cases hf
    rw [if_pos h5] at hf
    have h6 : 0 ≤ (rA g1 59 (rA g1 68 a1)) ∧ (rA g1 59 (rA g1 68 a1)) < 60 := by
      by_cases q : 0 ≤ (rA g1 59 (rA g1 68 a1)) ∧ (rA g1 59 (rA g1 68 a1)) < 60
      · exact q
      · rw [if_neg q] at hf; cases hf
    rw [if_pos h6] at hf
    cases hf
    refine Rt.path ok_M_label 11 [] rfl ⟨(ix_41 h4), (ix_40 h5), (ix_60 h6), trivial⟩ ?_
    exact Rt.retL ok_M_label rfl rfl
def f_M_symbol_50 (a1 : Int) (a2 : Int) (g : G2) : Option (Int64 × G2) :=
  bd (f_M_isAssertion_50 a1 g) fun r1 g1 =>
  if ir r1 then
  if r1 = 0 then
    some ((Int64.ofNat 18446744073709551615), g1)
  else
    if ir a2 then
    if a2 < 0 then
      some ((Int64.ofNat 18446744073709551615), g1)
    else
      if 0 ≤ a1 ∧ a1 < 41 then
      if 0 ≤ (rA g1 68 a1) ∧ (rA g1 68 a1) < 40 then
      if ir (rA g1 61 (rA g1 68 a1)) then
      if a2 < (rA g1 61 (rA g1 68 a1)) then
        if 0 ≤ ((24 * (rA g1 68 a1)) + a2) ∧ ((24 * (rA g1 68 a1)) + a2) < 960 then
        if 0 ≤ (rA g1 60 ((24 * (rA g1 68 a1)) + a2)) ∧ (rA g1 60 ((24 * (rA g1 68 a1)) + a2)) < 60 then
        some ((rB g1 53 (rA g1 60 ((24 * (rA g1 68 a1)) + a2))), g1)
        else none
        else none
      else
        some ((Int64.ofNat 18446744073709551615), g1)
      else none
      else none
      else none
    else none
  else none
set_option maxHeartbeats 4000000 in
set_option maxRecDepth 100000 in
theorem c_M_symbol_50 (d : Nat) (a1 : Int) (a2 : Int) (g : G2) (r : Int64) (g' : G2) (hf : f_M_symbol_50 a1 a2 g = some (r, g')) : C2 (d + 1) m_M_symbol [vR 50, vI a1, vI a2] g (some (vL r)) g' := by
  unfold f_M_symbol_50 at hf
  refine C2.of rfl rfl rfl (Nat.le_of_ble_eq_true rfl) ?_
  obtain ⟨r1, g1, e1, hf⟩ := bd_inv hf
  refine Rt.path ok_M_symbol 2 [] rfl trivial ?_
  refine Rt.callV ok_M_symbol rfl ml_M_365 [vI _] cf_M_isAssertion rfl rfl (c_M_isAssertion_50 d _ _ _ _ e1) (Nat.le_of_ble_eq_true rfl) ?_
  have h2 : ir r1 := by
    by_cases q : ir r1
    · exact q
    · rw [if_neg q] at hf; cases hf
  rw [if_pos h2] at hf
  by_cases h3 : r1 = 0
  · rw [if_pos h3] at hf
    refine Rt.path ok_M_symbol 1 [1] rfl ⟨⟨h2, h3⟩, trivial⟩ ?_
    cases hf
    refine Rt.path ok_M_symbol 1 [] rfl trivial ?_
    exact Rt.retL ok_M_symbol rfl rfl
  · rw [if_neg h3] at hf
    refine Rt.path ok_M_symbol 1 [0] rfl ⟨⟨h2, h3⟩, trivial⟩ ?_
    have h4 : ir a2 := by
      by_cases q : ir a2
      · exact q
      · rw [if_neg q] at hf; cases hf
    rw [if_pos h4] at hf
    by_cases h5 : a2 < 0
    · rw [if_pos h5] at hf
      refine Rt.path ok_M_symbol 2 [1] rfl ⟨⟨h4, h5⟩, trivial⟩ ?_
      cases hf
      refine Rt.path ok_M_symbol 1 [] rfl trivial ?_
      exact Rt.retL ok_M_symbol rfl rfl
    · rw [if_neg h5] at hf
      refine Rt.path ok_M_symbol 2 [0] rfl ⟨⟨h4, (Int.not_lt.mp h5)⟩, trivial⟩ ?_
      have h6 : 0 ≤ a1 ∧ a1 < 41 := by
        by_cases q : 0 ≤ a1 ∧ a1 < 41
        · exact q
        · rw [if_neg q] at hf; cases hf
      rw [if_pos h6] at hf
      have h7 : 0 ≤ (rA g1 68 a1) ∧ (rA g1 68 a1) < 40 := by
        by_cases q : 0 ≤ (rA g1 68 a1) ∧ (rA g1 68 a1) < 40
        · exact q
        · rw [if_neg q] at hf; cases hf
      rw [if_pos h7] at hf
      have h8 : ir (rA g1 61 (rA g1 68 a1)) := by
        by_cases q : ir (rA g1 61 (rA g1 68 a1))
        · exact q
        · rw [if_neg q] at hf; cases hf
      rw [if_pos h8] at hf
      by_cases h9 : a2 < (rA g1 61 (rA g1 68 a1))
      · rw [if_pos h9] at hf
        refine Rt.path ok_M_symbol 9 [1] rfl ⟨(ix_41 h6), (ix_40 h7), ⟨⟨h4, h8⟩, h9⟩, trivial⟩ ?_
        have h10 : 0 ≤ ((24 * (rA g1 68 a1)) + a2) ∧ ((24 * (rA g1 68 a1)) + a2) < 960 := by
          by_cases q : 0 ≤ ((24 * (rA g1 68 a1)) + a2) ∧ ((24 * (rA g1 68 a1)) + a2) < 960
          · exact q
          · rw [if_neg q] at hf; cases hf
        rw [if_pos h10] at hf
        have h11 : 0 ≤ (rA g1 60 ((24 * (rA g1 68 a1)) + a2)) ∧ (rA g1 60 ((24 * (rA g1 68 a1)) + a2)) < 60 := by
          by_cases q : 0 ≤ (rA g1 60 ((24 * (rA g1 68 a1)) + a2)) ∧ (rA g1 60 ((24 * (rA g1 68 a1)) + a2)) < 60
          · exact q
          · rw [if_neg q] at hf; cases hf
        rw [if_pos h11] at hf
        cases hf
        refine Rt.path ok_M_symbol 14 [] rfl ⟨(ix_41 h6), (ix_960 h10), (ix_60 h11), trivial⟩ ?_
        exact Rt.retL ok_M_symbol rfl rfl
      · rw [if_neg h9] at hf
        refine Rt.path ok_M_symbol 9 [0] rfl ⟨(ix_41 h6), (ix_40 h7), ⟨⟨h4, h8⟩, (Int.not_lt.mp h9)⟩, trivial⟩ ?_
        cases hf
        refine Rt.path ok_M_symbol 1 [] rfl trivial ?_
        exact Rt.retL ok_M_symbol rfl rfl
def f_M_hypothesis_50 (a1 : Int) (a2 : Int) (g : G2) : Option (Int64 × G2) :=
  bd (f_M_isAssertion_50 a1 g) fun r1 g1 =>
  if ir r1 then
  if r1 = 0 then
    some ((Int64.ofNat 18446744073709551615), g1)
  else
    if ir a2 then
    if a2 < 0 then
      some ((Int64.ofNat 18446744073709551615), g1)
    else
      if 0 ≤ a1 ∧ a1 < 41 then
      if ir (rA g1 70 a1) then
      if a2 < (rA g1 70 a1) then
        if 0 ≤ ((40 * a1) + a2) ∧ ((40 * a1) + a2) < 1640 then
        if 0 ≤ (rA g1 69 ((40 * a1) + a2)) ∧ (rA g1 69 ((40 * a1) + a2)) < 40 then
        if 0 ≤ (rA g1 59 (rA g1 69 ((40 * a1) + a2))) ∧ (rA g1 59 (rA g1 69 ((40 * a1) + a2))) < 60 then
        some ((rB g1 53 (rA g1 59 (rA g1 69 ((40 * a1) + a2)))), g1)
        else none
        else none
        else none
      else
        some ((Int64.ofNat 18446744073709551615), g1)
      else none
      else none
    else none
  else none
set_option maxHeartbeats 4000000 in
set_option maxRecDepth 100000 in
theorem c_M_hypothesis_50 (d : Nat) (a1 : Int) (a2 : Int) (g : G2) (r : Int64) (g' : G2) (hf : f_M_hypothesis_50 a1 a2 g = some (r, g')) : C2 (d + 1) m_M_hypothesis [vR 50, vI a1, vI a2] g (some (vL r)) g' := by
  unfold f_M_hypothesis_50 at hf
  refine C2.of rfl rfl rfl (Nat.le_of_ble_eq_true rfl) ?_
  obtain ⟨r1, g1, e1, hf⟩ := bd_inv hf
  refine Rt.path ok_M_hypothesis 2 [] rfl trivial ?_
  refine Rt.callV ok_M_hypothesis rfl ml_M_365 [vI _] cf_M_isAssertion rfl rfl (c_M_isAssertion_50 d _ _ _ _ e1) (Nat.le_of_ble_eq_true rfl) ?_
  have h2 : ir r1 := by
    by_cases q : ir r1
    · exact q
    · rw [if_neg q] at hf; cases hf
  rw [if_pos h2] at hf
  by_cases h3 : r1 = 0
  · rw [if_pos h3] at hf
    refine Rt.path ok_M_hypothesis 1 [1] rfl ⟨⟨h2, h3⟩, trivial⟩ ?_
    cases hf
    refine Rt.path ok_M_hypothesis 1 [] rfl trivial ?_
    exact Rt.retL ok_M_hypothesis rfl rfl
  · rw [if_neg h3] at hf
    refine Rt.path ok_M_hypothesis 1 [0] rfl ⟨⟨h2, h3⟩, trivial⟩ ?_
    have h4 : ir a2 := by
      by_cases q : ir a2
      · exact q
      · rw [if_neg q] at hf; cases hf
    rw [if_pos h4] at hf
    by_cases h5 : a2 < 0
    · rw [if_pos h5] at hf
      refine Rt.path ok_M_hypothesis 2 [1] rfl ⟨⟨h4, h5⟩, trivial⟩ ?_
      cases hf
      refine Rt.path ok_M_hypothesis 1 [] rfl trivial ?_
      exact Rt.retL ok_M_hypothesis rfl rfl
    · rw [if_neg h5] at hf
      refine Rt.path ok_M_hypothesis 2 [0] rfl ⟨⟨h4, (Int.not_lt.mp h5)⟩, trivial⟩ ?_
      have h6 : 0 ≤ a1 ∧ a1 < 41 := by
        by_cases q : 0 ≤ a1 ∧ a1 < 41
        · exact q
        · rw [if_neg q] at hf; cases hf
      rw [if_pos h6] at hf
      have h7 : ir (rA g1 70 a1) := by
        by_cases q : ir (rA g1 70 a1)
        · exact q
        · rw [if_neg q] at hf; cases hf
      rw [if_pos h7] at hf
      by_cases h8 : a2 < (rA g1 70 a1)
      · rw [if_pos h8] at hf
        refine Rt.path ok_M_hypothesis 6 [1] rfl ⟨(ix_41 h6), ⟨⟨h4, h7⟩, h8⟩, trivial⟩ ?_
        have h9 : 0 ≤ ((40 * a1) + a2) ∧ ((40 * a1) + a2) < 1640 := by
          by_cases q : 0 ≤ ((40 * a1) + a2) ∧ ((40 * a1) + a2) < 1640
          · exact q
          · rw [if_neg q] at hf; cases hf
        rw [if_pos h9] at hf
        have h10 : 0 ≤ (rA g1 69 ((40 * a1) + a2)) ∧ (rA g1 69 ((40 * a1) + a2)) < 40 := by
          by_cases q : 0 ≤ (rA g1 69 ((40 * a1) + a2)) ∧ (rA g1 69 ((40 * a1) + a2)) < 40
          · exact q
          · rw [if_neg q] at hf; cases hf
        rw [if_pos h10] at hf
        have h11 : 0 ≤ (rA g1 59 (rA g1 69 ((40 * a1) + a2))) ∧ (rA g1 59 (rA g1 69 ((40 * a1) + a2))) < 60 := by
          by_cases q : 0 ≤ (rA g1 59 (rA g1 69 ((40 * a1) + a2))) ∧ (rA g1 59 (rA g1 69 ((40 * a1) + a2))) < 60
          · exact q
          · rw [if_neg q] at hf; cases hf
        rw [if_pos h11] at hf
        cases hf
        refine Rt.path ok_M_hypothesis 14 [] rfl ⟨(ix_1640 h9), (ix_40 h10), (ix_60 h11), trivial⟩ ?_
        exact Rt.retL ok_M_hypothesis rfl rfl
      · rw [if_neg h8] at hf
        refine Rt.path ok_M_hypothesis 6 [0] rfl ⟨(ix_41 h6), ⟨⟨h4, h7⟩, (Int.not_lt.mp h8)⟩, trivial⟩ ?_
        cases hf
        refine Rt.path ok_M_hypothesis 1 [] rfl trivial ?_
        exact Rt.retL ok_M_hypothesis rfl rfl
def f_M_pairs_50 (a1 : Int) (g : G2) : Option (Int × G2) :=
  bd (f_M_isAssertion_50 a1 g) fun r1 g1 =>
  if ir r1 then
  if r1 = 0 then
    some ((-1), g1)
  else
    if 0 ≤ a1 ∧ a1 < 41 then
    some ((rA g1 73 a1), g1)
    else none
  else none
set_option maxHeartbeats 4000000 in
set_option maxRecDepth 100000 in
theorem c_M_pairs_50 (d : Nat) (a1 : Int) (g : G2) (r : Int) (g' : G2) (hf : f_M_pairs_50 a1 g = some (r, g')) : C2 (d + 1) m_M_pairs [vR 50, vI a1] g (some (vI r)) g' := by
  unfold f_M_pairs_50 at hf
  refine C2.of rfl rfl rfl (Nat.le_of_ble_eq_true rfl) ?_
  obtain ⟨r1, g1, e1, hf⟩ := bd_inv hf
  refine Rt.path ok_M_pairs 2 [] rfl trivial ?_
  refine Rt.callV ok_M_pairs rfl ml_M_365 [vI _] cf_M_isAssertion rfl rfl (c_M_isAssertion_50 d _ _ _ _ e1) (Nat.le_of_ble_eq_true rfl) ?_
  have h2 : ir r1 := by
    by_cases q : ir r1
    · exact q
    · rw [if_neg q] at hf; cases hf
  rw [if_pos h2] at hf
  by_cases h3 : r1 = 0
  · rw [if_pos h3] at hf
    refine Rt.path ok_M_pairs 1 [1] rfl ⟨⟨h2, h3⟩, trivial⟩ ?_
    cases hf
    refine Rt.path ok_M_pairs 1 [] rfl trivial ?_
    exact Rt.retI ok_M_pairs rfl rfl
  · rw [if_neg h3] at hf
    refine Rt.path ok_M_pairs 1 [0] rfl ⟨⟨h2, h3⟩, trivial⟩ ?_
    have h4 : 0 ≤ a1 ∧ a1 < 41 := by
      by_cases q : 0 ≤ a1 ∧ a1 < 41
      · exact q
      · rw [if_neg q] at hf; cases hf
    rw [if_pos h4] at hf
    cases hf
    refine Rt.path ok_M_pairs 5 [] rfl ⟨(ix_41 h4), trivial⟩ ?_
    exact Rt.retI ok_M_pairs rfl rfl
def f_M_apart_50 (a1 : Int) (a2 : Int64) (a4 : Int64) (g : G2) : Option (Int × G2) :=
  bd (f_M_find_50 a2 g) fun r1 g1 =>
  bd (f_M_find_50 a4 g1) fun r2 g2 =>
  bd (f_M_isAssertion_50 a1 g2) fun r3 g3 =>
  if ir r3 then
  if r3 = 0 then
    some (0, g3)
  else
    if ir r1 then
    if r1 < 0 then
      some (0, g3)
    else
      if ir r2 then
      if r2 < 0 then
        some (0, g3)
      else
        bd (f_M_isNeeded_50 a1 r1 r2 g3) fun r10 g10 =>
        if ir r10 then
        if r10 = 0 then
          some (0, g10)
        else
          some (1, g10)
        else none
      else none
    else none
  else none
set_option maxHeartbeats 4000000 in
set_option maxRecDepth 100000 in
theorem c_M_apart_50 (d : Nat) (a1 : Int) (a2 : Int64) (a4 : Int64) (g : G2) (r : Int) (g' : G2) (hf : f_M_apart_50 a1 a2 a4 g = some (r, g')) : C2 (d + 1) m_M_apart [vR 50, vI a1, vL a2, vL a4] g (some (vI r)) g' := by
  unfold f_M_apart_50 at hf
  refine C2.of rfl rfl rfl (Nat.le_of_ble_eq_true rfl) ?_
  obtain ⟨r1, g1, e1, hf⟩ := bd_inv hf
  refine Rt.path ok_M_apart 2 [] rfl trivial ?_
  refine Rt.callV ok_M_apart rfl ml_M_180 [vL _] cf_M_find rfl rfl (c_M_find_50 d _ _ _ _ e1) (Nat.le_of_ble_eq_true rfl) ?_
  obtain ⟨r2, g2, e2, hf⟩ := bd_inv hf
  refine Rt.path ok_M_apart 3 [] rfl trivial ?_
  refine Rt.callV ok_M_apart rfl ml_M_180 [vL _] cf_M_find rfl rfl (c_M_find_50 d _ _ _ _ e2) (Nat.le_of_ble_eq_true rfl) ?_
  obtain ⟨r3, g3, e3, hf⟩ := bd_inv hf
  refine Rt.path ok_M_apart 3 [] rfl trivial ?_
  refine Rt.callV ok_M_apart rfl ml_M_365 [vI _] cf_M_isAssertion rfl rfl (c_M_isAssertion_50 d _ _ _ _ e3) (Nat.le_of_ble_eq_true rfl) ?_
  have h4 : ir r3 := by
    by_cases q : ir r3
    · exact q
    · rw [if_neg q] at hf; cases hf
  rw [if_pos h4] at hf
  by_cases h5 : r3 = 0
  · rw [if_pos h5] at hf
    refine Rt.path ok_M_apart 1 [1] rfl ⟨⟨h4, h5⟩, trivial⟩ ?_
    cases hf
    refine Rt.path ok_M_apart 1 [] rfl trivial ?_
    exact Rt.retZ ok_M_apart (show (0 : Int) = 0 ∨ (0 : Int) = 1 by decide) rfl rfl
  · rw [if_neg h5] at hf
    refine Rt.path ok_M_apart 1 [0] rfl ⟨⟨h4, h5⟩, trivial⟩ ?_
    have h6 : ir r1 := by
      by_cases q : ir r1
      · exact q
      · rw [if_neg q] at hf; cases hf
    rw [if_pos h6] at hf
    by_cases h7 : r1 < 0
    · rw [if_pos h7] at hf
      refine Rt.path ok_M_apart 2 [1] rfl ⟨⟨h6, h7⟩, trivial⟩ ?_
      cases hf
      refine Rt.path ok_M_apart 1 [] rfl trivial ?_
      exact Rt.retZ ok_M_apart (show (0 : Int) = 0 ∨ (0 : Int) = 1 by decide) rfl rfl
    · rw [if_neg h7] at hf
      refine Rt.path ok_M_apart 2 [0] rfl ⟨⟨h6, (Int.not_lt.mp h7)⟩, trivial⟩ ?_
      have h8 : ir r2 := by
        by_cases q : ir r2
        · exact q
        · rw [if_neg q] at hf; cases hf
      rw [if_pos h8] at hf
      by_cases h9 : r2 < 0
      · rw [if_pos h9] at hf
        refine Rt.path ok_M_apart 2 [1] rfl ⟨⟨h8, h9⟩, trivial⟩ ?_
        cases hf
        refine Rt.path ok_M_apart 1 [] rfl trivial ?_
        exact Rt.retZ ok_M_apart (show (0 : Int) = 0 ∨ (0 : Int) = 1 by decide) rfl rfl
      · rw [if_neg h9] at hf
        refine Rt.path ok_M_apart 2 [0] rfl ⟨⟨h8, (Int.not_lt.mp h9)⟩, trivial⟩ ?_
        obtain ⟨r10, g10, e10, hf⟩ := bd_inv hf
        refine Rt.path ok_M_apart 4 [] rfl trivial ?_
        refine Rt.callV ok_M_apart rfl ml_M_233 [vI _, vI _, vI _] cf_M_isNeeded rfl rfl (c_M_isNeeded_50 d _ _ _ _ _ _ e10) (Nat.le_of_ble_eq_true rfl) ?_
        have h11 : ir r10 := by
          by_cases q : ir r10
          · exact q
          · rw [if_neg q] at hf; cases hf
        rw [if_pos h11] at hf
        by_cases h12 : r10 = 0
        · rw [if_pos h12] at hf
          refine Rt.path ok_M_apart 1 [1] rfl ⟨⟨h11, h12⟩, trivial⟩ ?_
          cases hf
          refine Rt.path ok_M_apart 1 [] rfl trivial ?_
          exact Rt.retZ ok_M_apart (show (0 : Int) = 0 ∨ (0 : Int) = 1 by decide) rfl rfl
        · rw [if_neg h12] at hf
          refine Rt.path ok_M_apart 1 [0] rfl ⟨⟨h11, h12⟩, trivial⟩ ?_
          cases hf
          refine Rt.path ok_M_apart 2 [] rfl trivial ?_
          exact Rt.retZ ok_M_apart (show (1 : Int) = 0 ∨ (1 : Int) = 1 by decide) rfl rfl
def f_M_steps_50 (a1 : Int) (g : G2) : Option (Int × G2) :=
  bd (f_M_isAssertion_50 a1 g) fun r1 g1 =>
  if ir r1 then
  if r1 = 0 then
    some ((-1), g1)
  else
    if 0 ≤ a1 ∧ a1 < 41 then
    some ((rA g1 74 a1), g1)
    else none
  else none
set_option maxHeartbeats 4000000 in
set_option maxRecDepth 100000 in
theorem c_M_steps_50 (d : Nat) (a1 : Int) (g : G2) (r : Int) (g' : G2) (hf : f_M_steps_50 a1 g = some (r, g')) : C2 (d + 1) m_M_steps [vR 50, vI a1] g (some (vI r)) g' := by
  unfold f_M_steps_50 at hf
  refine C2.of rfl rfl rfl (Nat.le_of_ble_eq_true rfl) ?_
  obtain ⟨r1, g1, e1, hf⟩ := bd_inv hf
  refine Rt.path ok_M_steps 2 [] rfl trivial ?_
  refine Rt.callV ok_M_steps rfl ml_M_365 [vI _] cf_M_isAssertion rfl rfl (c_M_isAssertion_50 d _ _ _ _ e1) (Nat.le_of_ble_eq_true rfl) ?_
  have h2 : ir r1 := by
    by_cases q : ir r1
    · exact q
    · rw [if_neg q] at hf; cases hf
  rw [if_pos h2] at hf
  by_cases h3 : r1 = 0
  · rw [if_pos h3] at hf
    refine Rt.path ok_M_steps 1 [1] rfl ⟨⟨h2, h3⟩, trivial⟩ ?_
    cases hf
    refine Rt.path ok_M_steps 1 [] rfl trivial ?_
    exact Rt.retI ok_M_steps rfl rfl
  · rw [if_neg h3] at hf
    refine Rt.path ok_M_steps 1 [0] rfl ⟨⟨h2, h3⟩, trivial⟩ ?_
    have h4 : 0 ≤ a1 ∧ a1 < 41 := by
      by_cases q : 0 ≤ a1 ∧ a1 < 41
      · exact q
      · rw [if_neg q] at hf; cases hf
    rw [if_pos h4] at hf
    cases hf
    refine Rt.path ok_M_steps 5 [] rfl ⟨(ix_41 h4), trivial⟩ ?_
    exact Rt.retI ok_M_steps rfl rfl
def f_M_depth_50 (a1 : Int) (g : G2) : Option (Int × G2) :=
  bd (f_M_isAssertion_50 a1 g) fun r1 g1 =>
  if ir r1 then
  if r1 = 0 then
    some ((-1), g1)
  else
    if 0 ≤ a1 ∧ a1 < 41 then
    some ((rA g1 75 a1), g1)
    else none
  else none
set_option maxHeartbeats 4000000 in
set_option maxRecDepth 100000 in
theorem c_M_depth_50 (d : Nat) (a1 : Int) (g : G2) (r : Int) (g' : G2) (hf : f_M_depth_50 a1 g = some (r, g')) : C2 (d + 1) m_M_depth [vR 50, vI a1] g (some (vI r)) g' := by
  unfold f_M_depth_50 at hf
  refine C2.of rfl rfl rfl (Nat.le_of_ble_eq_true rfl) ?_
  obtain ⟨r1, g1, e1, hf⟩ := bd_inv hf
  refine Rt.path ok_M_depth 2 [] rfl trivial ?_
  refine Rt.callV ok_M_depth rfl ml_M_365 [vI _] cf_M_isAssertion rfl rfl (c_M_isAssertion_50 d _ _ _ _ e1) (Nat.le_of_ble_eq_true rfl) ?_
  have h2 : ir r1 := by
    by_cases q : ir r1
    · exact q
    · rw [if_neg q] at hf; cases hf
  rw [if_pos h2] at hf
  by_cases h3 : r1 = 0
  · rw [if_pos h3] at hf
    refine Rt.path ok_M_depth 1 [1] rfl ⟨⟨h2, h3⟩, trivial⟩ ?_
    cases hf
    refine Rt.path ok_M_depth 1 [] rfl trivial ?_
    exact Rt.retI ok_M_depth rfl rfl
  · rw [if_neg h3] at hf
    refine Rt.path ok_M_depth 1 [0] rfl ⟨⟨h2, h3⟩, trivial⟩ ?_
    have h4 : 0 ≤ a1 ∧ a1 < 41 := by
      by_cases q : 0 ≤ a1 ∧ a1 < 41
      · exact q
      · rw [if_neg q] at hf; cases hf
    rw [if_pos h4] at hf
    cases hf
    refine Rt.path ok_M_depth 5 [] rfl ⟨(ix_41 h4), trivial⟩ ?_
    exact Rt.retI ok_M_depth rfl rfl
def f_M_uses_50 (a1 : Int) (a2 : Int) (g : G2) : Option (Int × G2) :=
  bd (f_M_isAssertion_50 a1 g) fun r1 g1 =>
  if ir r1 then
  if r1 = 0 then
    some ((-1), g1)
  else
    bd (f_M_isAssertion_50 a2 g1) fun r4 g4 =>
    if ir r4 then
    if r4 = 0 then
      some (0, g4)
    else
      if 0 ≤ ((40 * a1) + a2) ∧ ((40 * a1) + a2) < 1640 then
      some ((rA g4 76 ((40 * a1) + a2)), g4)
      else none
    else none
  else none
set_option maxHeartbeats 4000000 in
set_option maxRecDepth 100000 in
theorem c_M_uses_50 (d : Nat) (a1 : Int) (a2 : Int) (g : G2) (r : Int) (g' : G2) (hf : f_M_uses_50 a1 a2 g = some (r, g')) : C2 (d + 1) m_M_uses [vR 50, vI a1, vI a2] g (some (vI r)) g' := by
  unfold f_M_uses_50 at hf
  refine C2.of rfl rfl rfl (Nat.le_of_ble_eq_true rfl) ?_
  obtain ⟨r1, g1, e1, hf⟩ := bd_inv hf
  refine Rt.path ok_M_uses 2 [] rfl trivial ?_
  refine Rt.callV ok_M_uses rfl ml_M_365 [vI _] cf_M_isAssertion rfl rfl (c_M_isAssertion_50 d _ _ _ _ e1) (Nat.le_of_ble_eq_true rfl) ?_
  have h2 : ir r1 := by
    by_cases q : ir r1
    · exact q
    · rw [if_neg q] at hf; cases hf
  rw [if_pos h2] at hf
  by_cases h3 : r1 = 0
  · rw [if_pos h3] at hf
    refine Rt.path ok_M_uses 1 [0] rfl ⟨⟨h2, h3⟩, trivial⟩ ?_
    cases hf
    refine Rt.path ok_M_uses 2 [] rfl trivial ?_
    exact Rt.retI ok_M_uses rfl rfl
  · rw [if_neg h3] at hf
    refine Rt.path ok_M_uses 1 [1] rfl ⟨⟨h2, h3⟩, trivial⟩ ?_
    obtain ⟨r4, g4, e4, hf⟩ := bd_inv hf
    refine Rt.path ok_M_uses 2 [] rfl trivial ?_
    refine Rt.callV ok_M_uses rfl ml_M_365 [vI _] cf_M_isAssertion rfl rfl (c_M_isAssertion_50 d _ _ _ _ e4) (Nat.le_of_ble_eq_true rfl) ?_
    have h5 : ir r4 := by
      by_cases q : ir r4
      · exact q
      · rw [if_neg q] at hf; cases hf
    rw [if_pos h5] at hf
    by_cases h6 : r4 = 0
    · rw [if_pos h6] at hf
      refine Rt.path ok_M_uses 1 [1] rfl ⟨⟨h5, h6⟩, trivial⟩ ?_
      cases hf
      refine Rt.path ok_M_uses 1 [] rfl trivial ?_
      exact Rt.retI ok_M_uses rfl rfl
    · rw [if_neg h6] at hf
      refine Rt.path ok_M_uses 1 [0] rfl ⟨⟨h5, h6⟩, trivial⟩ ?_
      have h7 : 0 ≤ ((40 * a1) + a2) ∧ ((40 * a1) + a2) < 1640 := by
        by_cases q : 0 ≤ ((40 * a1) + a2) ∧ ((40 * a1) + a2) < 1640
        · exact q
        · rw [if_neg q] at hf; cases hf
      rw [if_pos h7] at hf
      cases hf
      refine Rt.path ok_M_uses 9 [] rfl ⟨(ix_1640 h7), trivial⟩ ?_
      exact Rt.retI ok_M_uses rfl rfl
def f_M_proved_50 (a1 : Int) (g : G2) : Option (Int × G2) :=
  bd (f_M_isAssertion_50 a1 g) fun r1 g1 =>
  if ir r1 then
  if r1 = 0 then
    some (0, g1)
  else
    if 0 ≤ a1 ∧ a1 < 41 then
    if ir (rA g1 78 a1) then
    if (rA g1 78 a1) = 0 then
      some (0, g1)
    else
      some (1, g1)
    else none
    else none
  else none
set_option maxHeartbeats 4000000 in
set_option maxRecDepth 100000 in
theorem c_M_proved_50 (d : Nat) (a1 : Int) (g : G2) (r : Int) (g' : G2) (hf : f_M_proved_50 a1 g = some (r, g')) : C2 (d + 1) m_M_proved [vR 50, vI a1] g (some (vI r)) g' := by
  unfold f_M_proved_50 at hf
  refine C2.of rfl rfl rfl (Nat.le_of_ble_eq_true rfl) ?_
  obtain ⟨r1, g1, e1, hf⟩ := bd_inv hf
  refine Rt.path ok_M_proved 2 [] rfl trivial ?_
  refine Rt.callV ok_M_proved rfl ml_M_365 [vI _] cf_M_isAssertion rfl rfl (c_M_isAssertion_50 d _ _ _ _ e1) (Nat.le_of_ble_eq_true rfl) ?_
  have h2 : ir r1 := by
    by_cases q : ir r1
    · exact q
    · rw [if_neg q] at hf; cases hf
  rw [if_pos h2] at hf
  by_cases h3 : r1 = 0
  · rw [if_pos h3] at hf
    refine Rt.path ok_M_proved 1 [1] rfl ⟨⟨h2, h3⟩, trivial⟩ ?_
    cases hf
    refine Rt.path ok_M_proved 1 [] rfl trivial ?_
    exact Rt.retZ ok_M_proved (show (0 : Int) = 0 ∨ (0 : Int) = 1 by decide) rfl rfl
  · rw [if_neg h3] at hf
    refine Rt.path ok_M_proved 1 [0] rfl ⟨⟨h2, h3⟩, trivial⟩ ?_
    have h4 : 0 ≤ a1 ∧ a1 < 41 := by
      by_cases q : 0 ≤ a1 ∧ a1 < 41
      · exact q
      · rw [if_neg q] at hf; cases hf
    rw [if_pos h4] at hf
    have h5 : ir (rA g1 78 a1) := by
      by_cases q : ir (rA g1 78 a1)
      · exact q
      · rw [if_neg q] at hf; cases hf
    rw [if_pos h5] at hf
    by_cases h6 : (rA g1 78 a1) = 0
    · rw [if_pos h6] at hf
      refine Rt.path ok_M_proved 5 [1] rfl ⟨(ix_41 h4), ⟨h5, h6⟩, trivial⟩ ?_
      cases hf
      refine Rt.path ok_M_proved 1 [] rfl trivial ?_
      exact Rt.retZ ok_M_proved (show (0 : Int) = 0 ∨ (0 : Int) = 1 by decide) rfl rfl
    · rw [if_neg h6] at hf
      refine Rt.path ok_M_proved 5 [0] rfl ⟨(ix_41 h4), ⟨h5, h6⟩, trivial⟩ ?_
      cases hf
      refine Rt.path ok_M_proved 2 [] rfl trivial ?_
      exact Rt.retZ ok_M_proved (show (1 : Int) = 0 ∨ (1 : Int) = 1 by decide) rfl rfl
