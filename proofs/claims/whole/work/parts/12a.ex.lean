def b_Text_append_2_0 (L : Nat → Int64 → Int → Int → G2 → Option (Int × G2)) (l1 : Int64) (i3 : Int) (i4 : Int) (g : G2) : Option (Int × G2) :=
  if ir i4 then
  if ir i3 then
  if i4 < i3 then
    if (am_and (am_l2i (am_ushr l1 (8 * i4))) 255) < 32 then
      some ((-1), g)
    else
      if 126 < (am_and (am_l2i (am_ushr l1 (8 * i4))) 255) then
        some ((-1), g)
      else
        L 0 l1 i3 (i4 + 1) g
  else
    L 1 l1 i3 0 g
  else none
  else none
def b_Text_append_2_1 (L : Nat → Int64 → Int → Int → G2 → Option (Int × G2)) (l1 : Int64) (i3 : Int) (i4 : Int) (g : G2) : Option (Int × G2) :=
  if ir i4 then
  if ir i3 then
  if i4 < i3 then
    if 0 ≤ ((rI g 1 1) + i4) ∧ ((rI g 1 1) + i4) < 1600 then
    if -128 ≤ (am_i2b (am_l2i (am_ushr l1 (8 * ((i3 - 1) - i4))))) ∧ (am_i2b (am_l2i (am_ushr l1 (8 * ((i3 - 1) - i4))))) ≤ 127 then
    L 1 l1 i3 (i4 + 1) (gA g 2 ((rI g 1 1) + i4) (am_i2b (am_l2i (am_ushr l1 (8 * ((i3 - 1) - i4))))))
    else none
    else none
  else
    some (((rI g 1 1) + i3), (gI g 1 1 ((rI g 1 1) + i3)))
  else none
  else none
def l_Text_append_2 : Nat → Nat → Int64 → Int → Int → G2 → Option (Int × G2)
  | 0 => fun _ _ _ _ _ => none
  | n + 1 => fun t l1 i3 i4 g => match t with
    | 0 => b_Text_append_2_0 (l_Text_append_2 n) l1 i3 i4 g
    | _ => b_Text_append_2_1 (l_Text_append_2 n) l1 i3 i4 g
set_option maxHeartbeats 4000000 in
set_option maxRecDepth 100000 in
theorem rl_Text_append_2 (d : Nat) : ∀ (n : Nat) (l1 : Int64) (i3 : Int) (i4 : Int) (g : G2) (r : Int) (g' : G2), (l_Text_append_2 n 0 l1 i3 i4 g = some (r, g') → Rt d m_Text_append 28 [some (vR 2), some (vL l1), none, some (vI i3), some (vI i4), none] [] g (some (vI r)) g') ∧ (l_Text_append_2 n 1 l1 i3 i4 g = some (r, g') → Rt d m_Text_append 73 [some (vR 2), some (vL l1), none, some (vI i3), some (vI i4), none] [] g (some (vI r)) g') := by
  intro n
  induction n with
  | zero => intro l1 i3 i4 g r g'; exact ⟨fun hf => (by cases hf), fun hf => (by cases hf)⟩
  | succ n ih =>
    intro l1 i3 i4 g r g'
    refine ⟨?_, ?_⟩
    · intro hf
      replace hf : b_Text_append_2_0 (l_Text_append_2 n) l1 i3 i4 g = some (r, g') := hf
      unfold b_Text_append_2_0 at hf
      have h6 : ir i4 := by
        by_cases q : ir i4
        · exact q
        · rw [if_neg q] at hf; cases hf
      rw [if_pos h6] at hf
      have h7 : ir i3 := by
        by_cases q : ir i3
        · exact q
        · rw [if_neg q] at hf; cases hf
      rw [if_pos h7] at hf
      by_cases h8 : i4 < i3
      · rw [if_pos h8] at hf
        refine Rt.path ok_Text_append 3 [0] rfl ⟨⟨⟨h6, h7⟩, h8⟩, trivial⟩ ?_
        by_cases h9 : (am_and (am_l2i (am_ushr l1 (8 * i4))) 255) < 32
        · rw [if_pos h9] at hf
          refine Rt.path ok_Text_append 12 [1] rfl ⟨⟨⟨(am_andIn _ _), (show ir 32 by decide)⟩, h9⟩, trivial⟩ ?_
          cases hf
          refine Rt.path ok_Text_append 1 [] rfl trivial ?_
          exact Rt.retI ok_Text_append rfl rfl
        · rw [if_neg h9] at hf
          refine Rt.path ok_Text_append 12 [0] rfl ⟨⟨⟨(am_andIn _ _), (show ir 32 by decide)⟩, (Int.not_lt.mp h9)⟩, trivial⟩ ?_
          by_cases h10 : 126 < (am_and (am_l2i (am_ushr l1 (8 * i4))) 255)
          · rw [if_pos h10] at hf
            refine Rt.path ok_Text_append 3 [0] rfl ⟨⟨⟨(am_andIn _ _), (show ir 126 by decide)⟩, h10⟩, trivial⟩ ?_
            cases hf
            refine Rt.path ok_Text_append 1 [] rfl trivial ?_
            exact Rt.retI ok_Text_append rfl rfl
          · rw [if_neg h10] at hf
            refine Rt.path ok_Text_append 3 [1] rfl ⟨⟨⟨(am_andIn _ _), (show ir 126 by decide)⟩, (Int.not_lt.mp h10)⟩, trivial⟩ ?_
            refine Rt.path ok_Text_append 2 [] rfl trivial ?_
            exact Rt.weak ((ih _ _ _ _ _ _).1 hf) ⟨rfl, rfl, rfl, rfl, trivial⟩
      · rw [if_neg h8] at hf
        refine Rt.path ok_Text_append 3 [1] rfl ⟨⟨⟨h6, h7⟩, (Int.not_lt.mp h8)⟩, trivial⟩ ?_
        refine Rt.path ok_Text_append 2 [] rfl trivial ?_
        exact Rt.weak ((ih _ _ _ _ _ _).2 hf) ⟨rfl, rfl, rfl, rfl, trivial⟩
    · intro hf
      replace hf : b_Text_append_2_1 (l_Text_append_2 n) l1 i3 i4 g = some (r, g') := hf
      unfold b_Text_append_2_1 at hf
      have h11 : ir i4 := by
        by_cases q : ir i4
        · exact q
        · rw [if_neg q] at hf; cases hf
      rw [if_pos h11] at hf
      have h12 : ir i3 := by
        by_cases q : ir i3
        · exact q
        · rw [if_neg q] at hf; cases hf
      rw [if_pos h12] at hf
      by_cases h13 : i4 < i3
      · rw [if_pos h13] at hf
        refine Rt.path ok_Text_append 3 [0] rfl ⟨⟨⟨h11, h12⟩, h13⟩, trivial⟩ ?_
        have h14 : 0 ≤ ((rI g 1 1) + i4) ∧ ((rI g 1 1) + i4) < 1600 := by
          by_cases q : 0 ≤ ((rI g 1 1) + i4) ∧ ((rI g 1 1) + i4) < 1600
          · exact q
          · rw [if_neg q] at hf; cases hf
        rw [if_pos h14] at hf
        have h15 : -128 ≤ (am_i2b (am_l2i (am_ushr l1 (8 * ((i3 - 1) - i4))))) ∧ (am_i2b (am_l2i (am_ushr l1 (8 * ((i3 - 1) - i4))))) ≤ 127 := by
          by_cases q : -128 ≤ (am_i2b (am_l2i (am_ushr l1 (8 * ((i3 - 1) - i4))))) ∧ (am_i2b (am_l2i (am_ushr l1 (8 * ((i3 - 1) - i4))))) ≤ 127
          · exact q
          · rw [if_neg q] at hf; cases hf
        rw [if_pos h15] at hf
        refine Rt.path ok_Text_append 20 [] rfl ⟨⟨(ix_1600 h14), h15⟩, trivial⟩ ?_
        exact Rt.weak ((ih _ _ _ _ _ _).2 hf) ⟨rfl, rfl, rfl, rfl, trivial⟩
      · rw [if_neg h13] at hf
        refine Rt.path ok_Text_append 3 [1] rfl ⟨⟨⟨h11, h12⟩, (Int.not_lt.mp h13)⟩, trivial⟩ ?_
        cases hf
        refine Rt.path ok_Text_append 8 [] rfl trivial ?_
        exact Rt.retI ok_Text_append rfl rfl
def f_Text_append_2 (a1 : Int64) (a3 : Int) (g : G2) : Option (Int × G2) :=
  if ir a3 then
  if a3 < 1 then
    some ((-1), g)
  else
    if 8 < a3 then
      some ((-1), g)
    else
      if ir ((rI g 1 1) + a3) then
      if 1600 < ((rI g 1 1) + a3) then
        some ((-1), g)
      else
        l_Text_append_2 20000 0 a1 a3 0 g
      else none
  else none
set_option maxHeartbeats 4000000 in
set_option maxRecDepth 100000 in
theorem c_Text_append_2 (d : Nat) (a1 : Int64) (a3 : Int) (g : G2) (r : Int) (g' : G2) (hf : f_Text_append_2 a1 a3 g = some (r, g')) : C2 d m_Text_append [vR 2, vL a1, vI a3] g (some (vI r)) g' := by
  unfold f_Text_append_2 at hf
  refine C2.of rfl rfl rfl (Nat.le_of_ble_eq_true rfl) ?_
  have h1 : ir a3 := by
    by_cases q : ir a3
    · exact q
    · rw [if_neg q] at hf; cases hf
  rw [if_pos h1] at hf
  by_cases h2 : a3 < 1
  · rw [if_pos h2] at hf
    refine Rt.path ok_Text_append 3 [1] rfl ⟨⟨⟨h1, (show ir 1 by decide)⟩, h2⟩, trivial⟩ ?_
    cases hf
    refine Rt.path ok_Text_append 1 [] rfl trivial ?_
    exact Rt.retI ok_Text_append rfl rfl
  · rw [if_neg h2] at hf
    refine Rt.path ok_Text_append 3 [0] rfl ⟨⟨⟨h1, (show ir 1 by decide)⟩, (Int.not_lt.mp h2)⟩, trivial⟩ ?_
    by_cases h3 : 8 < a3
    · rw [if_pos h3] at hf
      refine Rt.path ok_Text_append 3 [1] rfl ⟨⟨⟨h1, (show ir 8 by decide)⟩, h3⟩, trivial⟩ ?_
      cases hf
      refine Rt.path ok_Text_append 1 [] rfl trivial ?_
      exact Rt.retI ok_Text_append rfl rfl
    · rw [if_neg h3] at hf
      refine Rt.path ok_Text_append 3 [0] rfl ⟨⟨⟨h1, (show ir 8 by decide)⟩, (Int.not_lt.mp h3)⟩, trivial⟩ ?_
      have h4 : ir ((rI g 1 1) + a3) := by
        by_cases q : ir ((rI g 1 1) + a3)
        · exact q
        · rw [if_neg q] at hf; cases hf
      rw [if_pos h4] at hf
      by_cases h5 : 1600 < ((rI g 1 1) + a3)
      · rw [if_pos h5] at hf
        refine Rt.path ok_Text_append 6 [0] rfl ⟨⟨⟨h4, (show ir 1600 by decide)⟩, h5⟩, trivial⟩ ?_
        cases hf
        refine Rt.path ok_Text_append 1 [] rfl trivial ?_
        exact Rt.retI ok_Text_append rfl rfl
      · rw [if_neg h5] at hf
        refine Rt.path ok_Text_append 6 [1] rfl ⟨⟨⟨h4, (show ir 1600 by decide)⟩, (Int.not_lt.mp h5)⟩, trivial⟩ ?_
        refine Rt.path ok_Text_append 2 [] rfl trivial ?_
        exact Rt.weak ((rl_Text_append_2 d _ _ _ _ _ _ _).1 hf) ⟨rfl, rfl, rfl, rfl, trivial⟩
def f_L_feed_1 (a1 : Int64) (a3 : Int) (g : G2) : Option (Int × G2) :=
  bd (f_Text_append_2 a1 a3 g) fun r1 g1 =>
  some (r1, g1)
set_option maxHeartbeats 4000000 in
set_option maxRecDepth 100000 in
theorem c_L_feed_1 (d : Nat) (a1 : Int64) (a3 : Int) (g : G2) (r : Int) (g' : G2) (hf : f_L_feed_1 a1 a3 g = some (r, g')) : C2 (d + 1) m_L_feed [vR 1, vL a1, vI a3] g (some (vI r)) g' := by
  unfold f_L_feed_1 at hf
  refine C2.of rfl rfl rfl (Nat.le_of_ble_eq_true rfl) ?_
  obtain ⟨r1, g1, e1, hf⟩ := bd_inv hf
  refine Rt.path ok_L_feed 4 [] rfl trivial ?_
  refine Rt.callV ok_L_feed rfl ml_L_50 [vL _, vI _] cf_Text_append rfl rfl (c_Text_append_2 d _ _ _ _ _ e1) (Nat.le_of_ble_eq_true rfl) ?_
  cases hf
  exact Rt.retI ok_L_feed rfl rfl
def f_Text_empty_2  (g : G2) : Option (Int × G2) :=
  some ((rI g 1 1), (gI g 1 1 0))
set_option maxHeartbeats 4000000 in
set_option maxRecDepth 100000 in
theorem c_Text_empty_2 (d : Nat)  (g : G2) (r : Int) (g' : G2) (hf : f_Text_empty_2 g = some (r, g')) : C2 d m_Text_empty [vR 2] g (some (vI r)) g' := by
  unfold f_Text_empty_2 at hf
  refine C2.of rfl rfl rfl (Nat.le_of_ble_eq_true rfl) ?_
  cases hf
  refine Rt.path ok_Text_empty 7 [] rfl trivial ?_
  exact Rt.retI ok_Text_empty rfl rfl
def f_L_clear_1  (g : G2) : Option (Int × G2) :=
  bd (f_Text_empty_2 g) fun r1 g1 =>
  some (r1, g1)
set_option maxHeartbeats 4000000 in
set_option maxRecDepth 100000 in
theorem c_L_clear_1 (d : Nat)  (g : G2) (r : Int) (g' : G2) (hf : f_L_clear_1 g = some (r, g')) : C2 (d + 1) m_L_clear [vR 1] g (some (vI r)) g' := by
  unfold f_L_clear_1 at hf
  refine C2.of rfl rfl rfl (Nat.le_of_ble_eq_true rfl) ?_
  obtain ⟨r1, g1, e1, hf⟩ := bd_inv hf
  refine Rt.path ok_L_clear 2 [] rfl trivial ?_
  refine Rt.callV ok_L_clear rfl ml_L_54 [] cf_Text_empty rfl rfl (c_Text_empty_2 d _ _ _ e1) (Nat.le_of_ble_eq_true rfl) ?_
  cases hf
  exact Rt.retI ok_L_clear rfl rfl
def f_Text_rewind_2  (g : G2) : Option (G2) :=
  some (gI (gI (gI g 1 2 0) 1 4 0) 1 7 0)
set_option maxHeartbeats 4000000 in
set_option maxRecDepth 100000 in
theorem c_Text_rewind_2 (d : Nat)  (g : G2) (g' : G2) (hf : f_Text_rewind_2 g = some g') : C2 d m_Text_rewind [vR 2] g none g' := by
  unfold f_Text_rewind_2 at hf
  refine C2.of rfl rfl rfl (Nat.le_of_ble_eq_true rfl) ?_
  cases hf
  refine Rt.path ok_Text_rewind 9 [] rfl ⟨(show (0 : Int) = 0 ∨ (0 : Int) = 1 by decide), trivial⟩ ?_
  exact Rt.retV ok_Text_rewind rfl rfl
def f_Names_begin_4  (g : G2) : Option (G2) :=
  some (gJ (gI (gI g 3 3 0) 3 4 0) 3 5 (Int64.ofNat 0))
set_option maxHeartbeats 4000000 in
set_option maxRecDepth 100000 in
theorem c_Names_begin_4 (d : Nat)  (g : G2) (g' : G2) (hf : f_Names_begin_4 g = some g') : C2 d m_Names_begin [vR 4] g none g' := by
  unfold f_Names_begin_4 at hf
  refine C2.of rfl rfl rfl (Nat.le_of_ble_eq_true rfl) ?_
  cases hf
  refine Rt.path ok_Names_begin 9 [] rfl trivial ?_
  exact Rt.retV ok_Names_begin rfl rfl
def b_J_fill_29_0 (L : Nat → Int64 → Int → Int → G2 → Option (G2)) (l1 : Int64) (i3 : Int) (i4 : Int) (g : G2) : Option (G2) :=
  if ir i3 then
  if ir i4 then
  if i3 < i4 then
    if 0 ≤ i3 ∧ i3 < 60 then
    L 0 l1 (i3 + 1) i4 (gB g 28 i3 l1)
    else none
  else
    some g
  else none
  else none
def l_J_fill_29 : Nat → Nat → Int64 → Int → Int → G2 → Option (G2)
  | 0 => fun _ _ _ _ _ => none
  | n + 1 => fun t l1 i3 i4 g => match t with
    | _ => b_J_fill_29_0 (l_J_fill_29 n) l1 i3 i4 g
set_option maxHeartbeats 4000000 in
set_option maxRecDepth 100000 in
theorem rl_J_fill_29 (d : Nat) : ∀ (n : Nat) (l1 : Int64) (i3 : Int) (i4 : Int) (g : G2) (g' : G2), (l_J_fill_29 n 0 l1 i3 i4 g = some g' → Rt d m_J_fill 6 [some (vR 29), some (vL l1), none, some (vI i3), some (vI i4)] [] g none g') := by
  intro n
  induction n with
  | zero => intro l1 i3 i4 g g'; exact fun hf => by cases hf
  | succ n ih =>
    intro l1 i3 i4 g g'
    intro hf
    replace hf : b_J_fill_29_0 (l_J_fill_29 n) l1 i3 i4 g = some g' := hf
    unfold b_J_fill_29_0 at hf
    have h1 : ir i3 := by
      by_cases q : ir i3
      · exact q
      · rw [if_neg q] at hf; cases hf
    rw [if_pos h1] at hf
    have h2 : ir i4 := by
      by_cases q : ir i4
      · exact q
      · rw [if_neg q] at hf; cases hf
    rw [if_pos h2] at hf
    by_cases h3 : i3 < i4
    · rw [if_pos h3] at hf
      refine Rt.path ok_J_fill 3 [0] rfl ⟨⟨⟨h1, h2⟩, h3⟩, trivial⟩ ?_
      have h4 : 0 ≤ i3 ∧ i3 < 60 := by
        by_cases q : 0 ≤ i3 ∧ i3 < 60
        · exact q
        · rw [if_neg q] at hf; cases hf
      rw [if_pos h4] at hf
      refine Rt.path ok_J_fill 6 [] rfl ⟨(ix_60 h4), trivial⟩ ?_
      exact Rt.weak ((ih _ _ _ _ _) hf) ⟨rfl, rfl, rfl, rfl, trivial⟩
    · rw [if_neg h3] at hf
      refine Rt.path ok_J_fill 3 [1] rfl ⟨⟨⟨h1, h2⟩, (Int.not_lt.mp h3)⟩, trivial⟩ ?_
      cases hf
      exact Rt.retV ok_J_fill rfl rfl
def f_J_fill_29 (a1 : Int64) (g : G2) : Option (G2) :=
  l_J_fill_29 20000 0 a1 0 60 g
set_option maxHeartbeats 4000000 in
set_option maxRecDepth 100000 in
theorem c_J_fill_29 (d : Nat) (a1 : Int64) (g : G2) (g' : G2) (hf : f_J_fill_29 a1 g = some g') : C2 d m_J_fill [vR 29, vL a1] g none g' := by
  unfold f_J_fill_29 at hf
  refine C2.of rfl rfl rfl (Nat.le_of_ble_eq_true rfl) ?_
  refine Rt.path ok_J_fill 5 [] rfl trivial ?_
  exact Rt.weak ((rl_J_fill_29 d _ _ _ _ _ _) hf) ⟨rfl, rfl, rfl, rfl, trivial⟩
def f_Context_firstOf (a0 : Int) (g : G2) : Option (Int × G2) :=
  if 0 ≤ a0 ∧ a0 < 2147483648 ∧ (0 : Int) < 60 ∧ (60 : Int) < 2147483648 then
  some ((a0 / 60), g)
  else none
set_option maxHeartbeats 4000000 in
set_option maxRecDepth 100000 in
theorem c_Context_firstOf (d : Nat) (a0 : Int) (g : G2) (r : Int) (g' : G2) (hf : f_Context_firstOf a0 g = some (r, g')) : C2 d m_Context_firstOf [vI a0] g (some (vI r)) g' := by
  unfold f_Context_firstOf at hf
  refine C2.of rfl rfl rfl (Nat.le_of_ble_eq_true rfl) ?_
  have h1 : 0 ≤ a0 ∧ a0 < 2147483648 ∧ (0 : Int) < 60 ∧ (60 : Int) < 2147483648 := by
    by_cases q : 0 ≤ a0 ∧ a0 < 2147483648 ∧ (0 : Int) < 60 ∧ (60 : Int) < 2147483648
    · exact q
    · rw [if_neg q] at hf; cases hf
  rw [if_pos h1] at hf
  cases hf
  refine Rt.path ok_Context_firstOf 3 [] rfl ⟨h1, trivial⟩ ?_
  exact Rt.retI ok_Context_firstOf rfl rfl
def f_Context_secondOf (a0 : Int) (g : G2) : Option (Int × G2) :=
  if 0 ≤ a0 ∧ a0 < 2147483648 ∧ (0 : Int) < 60 ∧ (60 : Int) < 2147483648 then
  some ((a0 % 60), g)
  else none
set_option maxHeartbeats 4000000 in
set_option maxRecDepth 100000 in
theorem c_Context_secondOf (d : Nat) (a0 : Int) (g : G2) (r : Int) (g' : G2) (hf : f_Context_secondOf a0 g = some (r, g')) : C2 d m_Context_secondOf [vI a0] g (some (vI r)) g' := by
  unfold f_Context_secondOf at hf
  refine C2.of rfl rfl rfl (Nat.le_of_ble_eq_true rfl) ?_
  have h1 : 0 ≤ a0 ∧ a0 < 2147483648 ∧ (0 : Int) < 60 ∧ (60 : Int) < 2147483648 := by
    by_cases q : 0 ≤ a0 ∧ a0 < 2147483648 ∧ (0 : Int) < 60 ∧ (60 : Int) < 2147483648
    · exact q
    · rw [if_neg q] at hf; cases hf
  rw [if_pos h1] at hf
  cases hf
  refine Rt.path ok_Context_secondOf 3 [] rfl ⟨h1, trivial⟩ ?_
  exact Rt.retI ok_Context_secondOf rfl rfl
def f_Context_pairOf (a0 : Int) (a1 : Int) (g : G2) : Option (Int × G2) :=
  some (((a0 * 60) + a1), g)
set_option maxHeartbeats 4000000 in
set_option maxRecDepth 100000 in
theorem c_Context_pairOf (d : Nat) (a0 : Int) (a1 : Int) (g : G2) (r : Int) (g' : G2) (hf : f_Context_pairOf a0 a1 g = some (r, g')) : C2 d m_Context_pairOf [vI a0, vI a1] g (some (vI r)) g' := by
  unfold f_Context_pairOf at hf
  refine C2.of rfl rfl rfl (Nat.le_of_ble_eq_true rfl) ?_
  cases hf
  refine Rt.path ok_Context_pairOf 5 [] rfl trivial ?_
  exact Rt.retI ok_Context_pairOf rfl rfl
def f_Context_addPair_27 (a1 : Int) (a2 : Int) (g : G2) : Option (G2) :=
  bd (f_Context_pairOf a1 a2 g) fun r1 g1 =>
  if 0 ≤ (rI g 26 4) ∧ (rI g 26 4) < 40 then
  if 0 ≤ a1 ∧ a1 < 60 then
  if 0 ≤ a2 ∧ a2 < 60 then
  some (gB (gB (gI (gA g1 27 (rI g 26 4) r1) 26 4 ((rI g1 26 4) + 1)) 28 a1 ((rB g1 28 a1) ||| (am_shl (Int64.ofNat 1) a2))) 28 a2 ((rB (gB g1 28 a1 ((rB g1 28 a1) ||| (am_shl (Int64.ofNat 1) a2))) 28 a2) ||| (am_shl (Int64.ofNat 1) a1)))
  else none
  else none
  else none
set_option maxHeartbeats 4000000 in
set_option maxRecDepth 100000 in
theorem c_Context_addPair_27 (d : Nat) (a1 : Int) (a2 : Int) (g : G2) (g' : G2) (hf : f_Context_addPair_27 a1 a2 g = some g') : C2 (d + 1) m_Context_addPair [vR 27, vI a1, vI a2] g none g' := by
  unfold f_Context_addPair_27 at hf
  refine C2.of rfl rfl rfl (Nat.le_of_ble_eq_true rfl) ?_
  obtain ⟨r1, g1, e1, hf⟩ := bd_inv hf
  refine Rt.path ok_Context_addPair 6 [] rfl trivial ?_
  refine Rt.callS ok_Context_addPair rfl ml_Context_71 [vI _, vI _] cf_Context_pairOf (c_Context_pairOf d _ _ _ _ _ e1) (Nat.le_of_ble_eq_true rfl) ?_
  have h2 : 0 ≤ (rI g 26 4) ∧ (rI g 26 4) < 40 := by
    by_cases q : 0 ≤ (rI g 26 4) ∧ (rI g 26 4) < 40
    · exact q
    · rw [if_neg q] at hf; cases hf
  rw [if_pos h2] at hf
  have h3 : 0 ≤ a1 ∧ a1 < 60 := by
    by_cases q : 0 ≤ a1 ∧ a1 < 60
    · exact q
    · rw [if_neg q] at hf; cases hf
  rw [if_pos h3] at hf
  have h4 : 0 ≤ a2 ∧ a2 < 60 := by
    by_cases q : 0 ≤ a2 ∧ a2 < 60
    · exact q
    · rw [if_neg q] at hf; cases hf
  rw [if_pos h4] at hf
  cases hf
  refine Rt.path ok_Context_addPair 27 [] rfl ⟨(ix_40 h2), (ix_60 h3), (ix_60 h3), (ix_60 h4), (ix_60 h4), trivial⟩ ?_
  exact Rt.retV ok_Context_addPair rfl rfl
def b_Context_forgetPairs_27_0 (L : Nat → Int → Int → G2 → Option (G2)) (i1 : Int) (i2 : Int) (g : G2) : Option (G2) :=
  if ir i2 then
  if ir i1 then
  if i2 < i1 then
    if 0 ≤ i2 ∧ i2 < 40 then
    bd (f_Context_firstOf (rA g 27 i2) g) fun r6 g6 =>
    bd (f_Context_secondOf (rA g6 27 i2) g6) fun r7 g7 =>
    (f_Context_addPair_27 r6 r7 g7).bind fun g8 =>
    L 0 i1 (i2 + 1) g8
    else none
  else
    some g
  else none
  else none
def l_Context_forgetPairs_27 : Nat → Nat → Int → Int → G2 → Option (G2)
  | 0 => fun _ _ _ _ => none
  | n + 1 => fun t i1 i2 g => match t with
    | _ => b_Context_forgetPairs_27_0 (l_Context_forgetPairs_27 n) i1 i2 g
set_option maxHeartbeats 4000000 in
set_option maxRecDepth 100000 in
theorem rl_Context_forgetPairs_27 (d : Nat) : ∀ (n : Nat) (i1 : Int) (i2 : Int) (g : G2) (g' : G2), (l_Context_forgetPairs_27 n 0 i1 i2 g = some g' → Rt (d + 2) m_Context_forgetPairs 15 [some (vR 27), some (vI i1), some (vI i2)] [] g none g') := by
  intro n
  induction n with
  | zero => intro i1 i2 g g'; exact fun hf => by cases hf
  | succ n ih =>
    intro i1 i2 g g'
    intro hf
    replace hf : b_Context_forgetPairs_27_0 (l_Context_forgetPairs_27 n) i1 i2 g = some g' := hf
    unfold b_Context_forgetPairs_27_0 at hf
    have h2 : ir i2 := by
      by_cases q : ir i2
      · exact q
      · rw [if_neg q] at hf; cases hf
    rw [if_pos h2] at hf
    have h3 : ir i1 := by
      by_cases q : ir i1
      · exact q
      · rw [if_neg q] at hf; cases hf
    rw [if_pos h3] at hf
    by_cases h4 : i2 < i1
    · rw [if_pos h4] at hf
      refine Rt.path ok_Context_forgetPairs 3 [0] rfl ⟨⟨⟨h2, h3⟩, h4⟩, trivial⟩ ?_
      have h5 : 0 ≤ i2 ∧ i2 < 40 := by
        by_cases q : 0 ≤ i2 ∧ i2 < 40
        · exact q
        · rw [if_neg q] at hf; cases hf
      rw [if_pos h5] at hf
      obtain ⟨r6, g6, e6, hf⟩ := bd_inv hf
      refine Rt.path ok_Context_forgetPairs 5 [] rfl ⟨(ix_40 h5), trivial⟩ ?_
      refine Rt.callS ok_Context_forgetPairs rfl ml_Context_60 [vI _] cf_Context_firstOf (c_Context_firstOf (d + 1) _ _ _ _ e6) (Nat.le_of_ble_eq_true rfl) ?_
      obtain ⟨r7, g7, e7, hf⟩ := bd_inv hf
      refine Rt.path ok_Context_forgetPairs 4 [] rfl ⟨(ix_40 h5), trivial⟩ ?_
      refine Rt.callS ok_Context_forgetPairs rfl ml_Context_64 [vI _] cf_Context_secondOf (c_Context_secondOf (d + 1) _ _ _ _ e7) (Nat.le_of_ble_eq_true rfl) ?_
      obtain ⟨g8, e8, hf⟩ := Option.bind_eq_some_iff.mp hf
      refine Rt.callV ok_Context_forgetPairs rfl ml_Context_67 [vI _, vI _] cf_Context_addPair rfl rfl (c_Context_addPair_27 d _ _ _ _ e8) (Nat.le_of_ble_eq_true rfl) ?_
      refine Rt.path ok_Context_forgetPairs 2 [] rfl trivial ?_
      exact Rt.weak ((ih _ _ _ _) hf) ⟨rfl, rfl, rfl, trivial⟩
    · rw [if_neg h4] at hf
      refine Rt.path ok_Context_forgetPairs 3 [1] rfl ⟨⟨⟨h2, h3⟩, (Int.not_lt.mp h4)⟩, trivial⟩ ?_
      cases hf
      exact Rt.retV ok_Context_forgetPairs rfl rfl
def f_Context_forgetPairs_27 (a1 : Int) (g : G2) : Option (G2) :=
  (f_J_fill_29 (Int64.ofNat 0) (gI g 26 4 0)).bind fun g1 =>
  l_Context_forgetPairs_27 20000 0 a1 0 g1
set_option maxHeartbeats 4000000 in
set_option maxRecDepth 100000 in
theorem c_Context_forgetPairs_27 (d : Nat) (a1 : Int) (g : G2) (g' : G2) (hf : f_Context_forgetPairs_27 a1 g = some g') : C2 (d + 2) m_Context_forgetPairs [vR 27, vI a1] g none g' := by
  unfold f_Context_forgetPairs_27 at hf
  refine C2.of rfl rfl rfl (Nat.le_of_ble_eq_true rfl) ?_
  obtain ⟨g1, e1, hf⟩ := Option.bind_eq_some_iff.mp hf
  refine Rt.path ok_Context_forgetPairs 6 [] rfl trivial ?_
  refine Rt.callS ok_Context_forgetPairs rfl ml_Context_54 [vR 29, vL _] cf_J_fill (c_J_fill_29 (d + 1) _ _ _ e1) (Nat.le_of_ble_eq_true rfl) ?_
  refine Rt.path ok_Context_forgetPairs 2 [] rfl trivial ?_
  exact Rt.weak ((rl_Context_forgetPairs_27 d _ _ _ _ _) hf) ⟨rfl, rfl, rfl, trivial⟩
def f_Context_begin_27  (g : G2) : Option (G2) :=
  (f_Context_forgetPairs_27 0 (gI (gJ (gJ (gJ g 26 0 (Int64.ofNat 0)) 26 1 (Int64.ofNat 0)) 26 2 (Int64.ofNat 0)) 26 6 0)).bind fun g1 =>
  some g1
set_option maxHeartbeats 4000000 in
set_option maxRecDepth 100000 in
theorem c_Context_begin_27 (d : Nat)  (g : G2) (g' : G2) (hf : f_Context_begin_27 g = some g') : C2 (d + 3) m_Context_begin [vR 27] g none g' := by
  unfold f_Context_begin_27 at hf
  refine C2.of rfl rfl rfl (Nat.le_of_ble_eq_true rfl) ?_
  obtain ⟨g1, e1, hf⟩ := Option.bind_eq_some_iff.mp hf
  refine Rt.path ok_Context_begin 14 [] rfl trivial ?_
  refine Rt.callV ok_Context_begin rfl ml_Context_47 [vI _] cf_Context_forgetPairs rfl rfl (c_Context_forgetPairs_27 d _ _ _ e1) (Nat.le_of_ble_eq_true rfl) ?_
  cases hf
  exact Rt.retV ok_Context_begin rfl rfl
def f_Reader_begin_26  (g : G2) : Option (G2) :=
  (f_Names_begin_4 g).bind fun g1 =>
  (f_Context_begin_27 (gI (gI g1 10 4 0) 16 8 0)).bind fun g2 =>
  some (gI g2 25 6 0)
set_option maxHeartbeats 4000000 in
set_option maxRecDepth 100000 in
theorem c_Reader_begin_26 (d : Nat)  (g : G2) (g' : G2) (hf : f_Reader_begin_26 g = some g') : C2 (d + 4) m_Reader_begin [vR 26] g none g' := by
  unfold f_Reader_begin_26 at hf
  refine C2.of rfl rfl rfl (Nat.le_of_ble_eq_true rfl) ?_
  obtain ⟨g1, e1, hf⟩ := Option.bind_eq_some_iff.mp hf
  refine Rt.path ok_Reader_begin 2 [] rfl trivial ?_
  refine Rt.callV ok_Reader_begin rfl ml_Reader_48 [] cf_Names_begin rfl rfl (c_Names_begin_4 (d + 3) _ _ e1) (Nat.le_of_ble_eq_true rfl) ?_
  obtain ⟨g2, e2, hf⟩ := Option.bind_eq_some_iff.mp hf
  refine Rt.path ok_Reader_begin 11 [] rfl trivial ?_
  refine Rt.callV ok_Reader_begin rfl ml_Reader_68 [] cf_Context_begin rfl rfl (c_Context_begin_27 d _ _ e2) (Nat.le_of_ble_eq_true rfl) ?_
  cases hf
  refine Rt.path ok_Reader_begin 3 [] rfl trivial ?_
  exact Rt.retV ok_Reader_begin rfl rfl
def b_Text_scanWord_2_0 (L : Nat → G2 → Option (Int × G2))  (g : G2) : Option (Int × G2) :=
  if ir (rI g 1 3) then
  if ir (rI g 1 1) then
  if (rI g 1 3) < (rI g 1 1) then
    if 0 ≤ (rI g 1 3) ∧ (rI g 1 3) < 1600 then
    if ir (rA g 2 (rI g 1 3)) then
    if (rA g 2 (rI g 1 3)) = 32 then
      L 0 (gI g 1 3 ((rI g 1 3) + 1))
    else
      L 1 g
    else none
    else none
  else
    L 1 g
  else none
  else none
def b_Text_scanWord_2_1 (L : Nat → G2 → Option (Int × G2))  (g : G2) : Option (Int × G2) :=
  L 2 (gI (gJ (gI g 1 4 (rI g 1 3)) 1 5 (Int64.ofNat 0)) 1 6 0)
def b_Text_scanWord_2_2 (L : Nat → G2 → Option (Int × G2))  (g : G2) : Option (Int × G2) :=
  if ir (rI g 1 4) then
  if ir (rI g 1 1) then
  if (rI g 1 4) < (rI g 1 1) then
    if 0 ≤ (rI g 1 4) ∧ (rI g 1 4) < 1600 then
    if ir (rA g 2 (rI g 1 4)) then
    if (rA g 2 (rI g 1 4)) = 32 then
      L 3 g
    else
      if ir (rI g 1 6) then
      if (rI g 1 6) = 0 then
        if (rA g 2 (rI g 1 4)) = 36 then
          L 2 (gI (gI (gJ g 1 5 (((rJ g 1 5) * (Int64.ofNat 128)) + (am_i2l (rA g 2 (rI g 1 4))))) 1 6 1) 1 4 ((rI g 1 4) + 1))
        else
          L 2 (gI (gI (gJ g 1 5 (((rJ g 1 5) * (Int64.ofNat 128)) + (am_i2l (rA g 2 (rI g 1 4))))) 1 6 0) 1 4 ((rI g 1 4) + 1))
      else
        L 2 (gI (gI (gJ g 1 5 (((rJ g 1 5) * (Int64.ofNat 128)) + (am_i2l (rA g 2 (rI g 1 4))))) 1 6 1) 1 4 ((rI g 1 4) + 1))
      else none
    else none
    else none
  else
    L 3 g
  else none
  else none
def b_Text_scanWord_2_3 (L : Nat → G2 → Option (Int × G2))  (g : G2) : Option (Int × G2) :=
  if ir (rI g 1 3) then
  if ir (rI g 1 4) then
  if (rI g 1 3) = (rI g 1 4) then
    some (0, g)
  else
    some (1, (gI g 1 2 ((rI g 1 2) + 1)))
  else none
  else none
def l_Text_scanWord_2 : Nat → Nat → G2 → Option (Int × G2)
  | 0 => fun _ _ => none
  | n + 1 => fun t g => match t with
    | 0 => b_Text_scanWord_2_0 (l_Text_scanWord_2 n) g
    | 1 => b_Text_scanWord_2_1 (l_Text_scanWord_2 n) g
    | 2 => b_Text_scanWord_2_2 (l_Text_scanWord_2 n) g
    | _ => b_Text_scanWord_2_3 (l_Text_scanWord_2 n) g
set_option maxHeartbeats 4000000 in
set_option maxRecDepth 100000 in
theorem rl_Text_scanWord_2 (d : Nat) : ∀ (n : Nat)  (g : G2) (r : Int) (g' : G2), (l_Text_scanWord_2 n 0 g = some (r, g') → Rt d m_Text_scanWord 8 [some (vR 2)] [] g (some (vI r)) g') ∧ (l_Text_scanWord_2 n 1 g = some (r, g') → Rt d m_Text_scanWord 46 [some (vR 2)] [] g (some (vI r)) g') ∧ (l_Text_scanWord_2 n 2 g = some (r, g') → Rt d m_Text_scanWord 64 [some (vR 2)] [] g (some (vI r)) g') ∧ (l_Text_scanWord_2 n 3 g = some (r, g') → Rt d m_Text_scanWord 155 [some (vR 2)] [] g (some (vI r)) g') := by
  intro n
  induction n with
  | zero => intro  g r g'; exact ⟨fun hf => (by cases hf), fun hf => (by cases hf), fun hf => (by cases hf), fun hf => (by cases hf)⟩
  | succ n ih =>
    intro  g r g'
    refine ⟨?_, ?_, ?_, ?_⟩
    · intro hf
      replace hf : b_Text_scanWord_2_0 (l_Text_scanWord_2 n) g = some (r, g') := hf
      unfold b_Text_scanWord_2_0 at hf
      have h1 : ir (rI g 1 3) := by
        by_cases q : ir (rI g 1 3)
        · exact q
        · rw [if_neg q] at hf; cases hf
      rw [if_pos h1] at hf
      have h2 : ir (rI g 1 1) := by
        by_cases q : ir (rI g 1 1)
        · exact q
        · rw [if_neg q] at hf; cases hf
      rw [if_pos h2] at hf
      by_cases h3 : (rI g 1 3) < (rI g 1 1)
      · rw [if_pos h3] at hf
        refine Rt.path ok_Text_scanWord 5 [0] rfl ⟨⟨⟨h1, h2⟩, h3⟩, trivial⟩ ?_
        have h4 : 0 ≤ (rI g 1 3) ∧ (rI g 1 3) < 1600 := by
          by_cases q : 0 ≤ (rI g 1 3) ∧ (rI g 1 3) < 1600
          · exact q
          · rw [if_neg q] at hf; cases hf
        rw [if_pos h4] at hf
        have h5 : ir (rA g 2 (rI g 1 3)) := by
          by_cases q : ir (rA g 2 (rI g 1 3))
          · exact q
          · rw [if_neg q] at hf; cases hf
        rw [if_pos h5] at hf
        by_cases h6 : (rA g 2 (rI g 1 3)) = 32
        · rw [if_pos h6] at hf
          refine Rt.path ok_Text_scanWord 7 [0] rfl ⟨(ix_1600 h4), ⟨⟨h5, (show ir 32 by decide)⟩, h6⟩, trivial⟩ ?_
          refine Rt.path ok_Text_scanWord 7 [] rfl trivial ?_
          exact Rt.weak ((ih _ _ _).1 hf) ⟨rfl, trivial⟩
        · rw [if_neg h6] at hf
          refine Rt.path ok_Text_scanWord 7 [1] rfl ⟨(ix_1600 h4), ⟨⟨h5, (show ir 32 by decide)⟩, h6⟩, trivial⟩ ?_
          exact Rt.weak ((ih _ _ _).2.1 hf) ⟨rfl, trivial⟩
      · rw [if_neg h3] at hf
        refine Rt.path ok_Text_scanWord 5 [1] rfl ⟨⟨⟨h1, h2⟩, (Int.not_lt.mp h3)⟩, trivial⟩ ?_
        exact Rt.weak ((ih _ _ _).2.1 hf) ⟨rfl, trivial⟩
    · intro hf
      replace hf : b_Text_scanWord_2_1 (l_Text_scanWord_2 n) g = some (r, g') := hf
      unfold b_Text_scanWord_2_1 at hf
      refine Rt.path ok_Text_scanWord 10 [] rfl ⟨(show (0 : Int) = 0 ∨ (0 : Int) = 1 by decide), trivial⟩ ?_
      exact Rt.weak ((ih _ _ _).2.2.1 hf) ⟨rfl, trivial⟩
    · intro hf
      replace hf : b_Text_scanWord_2_2 (l_Text_scanWord_2 n) g = some (r, g') := hf
      unfold b_Text_scanWord_2_2 at hf
      have h7 : ir (rI g 1 4) := by
        by_cases q : ir (rI g 1 4)
        · exact q
        · rw [if_neg q] at hf; cases hf
      rw [if_pos h7] at hf
      have h8 : ir (rI g 1 1) := by
        by_cases q : ir (rI g 1 1)
        · exact q
        · rw [if_neg q] at hf; cases hf
      rw [if_pos h8] at hf
      by_cases h9 : (rI g 1 4) < (rI g 1 1)
      · rw [if_pos h9] at hf
        refine Rt.path ok_Text_scanWord 5 [0] rfl ⟨⟨⟨h7, h8⟩, h9⟩, trivial⟩ ?_
        have h10 : 0 ≤ (rI g 1 4) ∧ (rI g 1 4) < 1600 := by
          by_cases q : 0 ≤ (rI g 1 4) ∧ (rI g 1 4) < 1600
          · exact q
          · rw [if_neg q] at hf; cases hf
        rw [if_pos h10] at hf
        have h11 : ir (rA g 2 (rI g 1 4)) := by
          by_cases q : ir (rA g 2 (rI g 1 4))
          · exact q
          · rw [if_neg q] at hf; cases hf
        rw [if_pos h11] at hf
        by_cases h12 : (rA g 2 (rI g 1 4)) = 32
        · rw [if_pos h12] at hf
          refine Rt.path ok_Text_scanWord 7 [1] rfl ⟨(ix_1600 h10), ⟨⟨h11, (show ir 32 by decide)⟩, h12⟩, trivial⟩ ?_
          exact Rt.weak ((ih _ _ _).2.2.2 hf) ⟨rfl, trivial⟩
        · rw [if_neg h12] at hf
          refine Rt.path ok_Text_scanWord 7 [0] rfl ⟨(ix_1600 h10), ⟨⟨h11, (show ir 32 by decide)⟩, h12⟩, trivial⟩ ?_
          have h13 : ir (rI g 1 6) := by
            by_cases q : ir (rI g 1 6)
            · exact q
            · rw [if_neg q] at hf; cases hf
          rw [if_pos h13] at hf
          by_cases h14 : (rI g 1 6) = 0
          · rw [if_pos h14] at hf
            refine Rt.path ok_Text_scanWord 17 [0] rfl ⟨(ix_1600 h10), ⟨h13, h14⟩, trivial⟩ ?_
            by_cases h15 : (rA g 2 (rI g 1 4)) = 36
            · rw [if_pos h15] at hf
              refine Rt.path ok_Text_scanWord 7 [0] rfl ⟨(ix_1600 h10), ⟨⟨h11, (show ir 36 by decide)⟩, h15⟩, trivial⟩ ?_
              refine Rt.path ok_Text_scanWord 10 [] rfl ⟨(show (1 : Int) = 0 ∨ (1 : Int) = 1 by decide), trivial⟩ ?_
              exact Rt.weak ((ih _ _ _).2.2.1 hf) ⟨rfl, trivial⟩
            · rw [if_neg h15] at hf
              refine Rt.path ok_Text_scanWord 7 [1] rfl ⟨(ix_1600 h10), ⟨⟨h11, (show ir 36 by decide)⟩, h15⟩, trivial⟩ ?_
              refine Rt.path ok_Text_scanWord 9 [] rfl ⟨(show (0 : Int) = 0 ∨ (0 : Int) = 1 by decide), trivial⟩ ?_
              exact Rt.weak ((ih _ _ _).2.2.1 hf) ⟨rfl, trivial⟩
          · rw [if_neg h14] at hf
            refine Rt.path ok_Text_scanWord 17 [1] rfl ⟨(ix_1600 h10), ⟨h13, h14⟩, trivial⟩ ?_
            refine Rt.path ok_Text_scanWord 10 [] rfl ⟨(show (1 : Int) = 0 ∨ (1 : Int) = 1 by decide), trivial⟩ ?_
            exact Rt.weak ((ih _ _ _).2.2.1 hf) ⟨rfl, trivial⟩
      · rw [if_neg h9] at hf
        refine Rt.path ok_Text_scanWord 5 [1] rfl ⟨⟨⟨h7, h8⟩, (Int.not_lt.mp h9)⟩, trivial⟩ ?_
        exact Rt.weak ((ih _ _ _).2.2.2 hf) ⟨rfl, trivial⟩
    · intro hf
      replace hf : b_Text_scanWord_2_3 (l_Text_scanWord_2 n) g = some (r, g') := hf
      unfold b_Text_scanWord_2_3 at hf
      have h16 : ir (rI g 1 3) := by
        by_cases q : ir (rI g 1 3)
        · exact q
        · rw [if_neg q] at hf; cases hf
      rw [if_pos h16] at hf
      have h17 : ir (rI g 1 4) := by
        by_cases q : ir (rI g 1 4)
        · exact q
        · rw [if_neg q] at hf; cases hf
      rw [if_pos h17] at hf
      by_cases h18 : (rI g 1 3) = (rI g 1 4)
      · rw [if_pos h18] at hf
        refine Rt.path ok_Text_scanWord 5 [0] rfl ⟨⟨⟨h16, h17⟩, h18⟩, trivial⟩ ?_
        cases hf
        refine Rt.path ok_Text_scanWord 1 [] rfl trivial ?_
        exact Rt.retZ ok_Text_scanWord (show (0 : Int) = 0 ∨ (0 : Int) = 1 by decide) rfl rfl
      · rw [if_neg h18] at hf
        refine Rt.path ok_Text_scanWord 5 [1] rfl ⟨⟨⟨h16, h17⟩, h18⟩, trivial⟩ ?_
        cases hf
        refine Rt.path ok_Text_scanWord 7 [] rfl trivial ?_
        exact Rt.retZ ok_Text_scanWord (show (1 : Int) = 0 ∨ (1 : Int) = 1 by decide) rfl rfl
def f_Text_scanWord_2  (g : G2) : Option (Int × G2) :=
  l_Text_scanWord_2 20000 0 (gI g 1 3 (rI g 1 4))
set_option maxHeartbeats 4000000 in
set_option maxRecDepth 100000 in
theorem c_Text_scanWord_2 (d : Nat)  (g : G2) (r : Int) (g' : G2) (hf : f_Text_scanWord_2 g = some (r, g')) : C2 d m_Text_scanWord [vR 2] g (some (vI r)) g' := by
  unfold f_Text_scanWord_2 at hf
  refine C2.of rfl rfl rfl (Nat.le_of_ble_eq_true rfl) ?_
  refine Rt.path ok_Text_scanWord 4 [] rfl trivial ?_
  exact Rt.weak ((rl_Text_scanWord_2 d _ _ _ _).1 hf) ⟨rfl, trivial⟩
def f_Text_keyword_2  (g : G2) : Option (Int × G2) :=
  if ir ((rI g 1 4) - (rI g 1 3)) then
  if ((rI g 1 4) - (rI g 1 3)) = 2 then
    if 0 ≤ (rI g 1 3) ∧ (rI g 1 3) < 1600 then
    if ir (rA g 2 (rI g 1 3)) then
    if (rA g 2 (rI g 1 3)) = 36 then
      if 0 ≤ ((rI g 1 3) + 1) ∧ ((rI g 1 3) + 1) < 1600 then
      some ((rA g 2 ((rI g 1 3) + 1)), g)
      else none
    else
      some (0, g)
    else none
    else none
  else
    some (0, g)
  else none
set_option maxHeartbeats 4000000 in
set_option maxRecDepth 100000 in
theorem c_Text_keyword_2 (d : Nat)  (g : G2) (r : Int) (g' : G2) (hf : f_Text_keyword_2 g = some (r, g')) : C2 d m_Text_keyword [vR 2] g (some (vI r)) g' := by
  unfold f_Text_keyword_2 at hf
  refine C2.of rfl rfl rfl (Nat.le_of_ble_eq_true rfl) ?_
  have h1 : ir ((rI g 1 4) - (rI g 1 3)) := by
    by_cases q : ir ((rI g 1 4) - (rI g 1 3))
    · exact q
    · rw [if_neg q] at hf; cases hf
  rw [if_pos h1] at hf
  by_cases h2 : ((rI g 1 4) - (rI g 1 3)) = 2
  · rw [if_pos h2] at hf
    refine Rt.path ok_Text_keyword 7 [0] rfl ⟨⟨⟨h1, (show ir 2 by decide)⟩, h2⟩, trivial⟩ ?_
    have h3 : 0 ≤ (rI g 1 3) ∧ (rI g 1 3) < 1600 := by
      by_cases q : 0 ≤ (rI g 1 3) ∧ (rI g 1 3) < 1600
      · exact q
      · rw [if_neg q] at hf; cases hf
    rw [if_pos h3] at hf
    have h4 : ir (rA g 2 (rI g 1 3)) := by
      by_cases q : ir (rA g 2 (rI g 1 3))
      · exact q
      · rw [if_neg q] at hf; cases hf
    rw [if_pos h4] at hf
    by_cases h5 : (rA g 2 (rI g 1 3)) = 36
    · rw [if_pos h5] at hf
      refine Rt.path ok_Text_keyword 7 [0] rfl ⟨(ix_1600 h3), ⟨⟨h4, (show ir 36 by decide)⟩, h5⟩, trivial⟩ ?_
      have h6 : 0 ≤ ((rI g 1 3) + 1) ∧ ((rI g 1 3) + 1) < 1600 := by
        by_cases q : 0 ≤ ((rI g 1 3) + 1) ∧ ((rI g 1 3) + 1) < 1600
        · exact q
        · rw [if_neg q] at hf; cases hf
      rw [if_pos h6] at hf
      cases hf
      refine Rt.path ok_Text_keyword 8 [] rfl ⟨(ix_1600 h6), trivial⟩ ?_
      exact Rt.retI ok_Text_keyword rfl rfl
    · rw [if_neg h5] at hf
      refine Rt.path ok_Text_keyword 7 [1] rfl ⟨(ix_1600 h3), ⟨⟨h4, (show ir 36 by decide)⟩, h5⟩, trivial⟩ ?_
      cases hf
      refine Rt.path ok_Text_keyword 1 [] rfl trivial ?_
      exact Rt.retI ok_Text_keyword rfl rfl
  · rw [if_neg h2] at hf
    refine Rt.path ok_Text_keyword 7 [1] rfl ⟨⟨⟨h1, (show ir 2 by decide)⟩, h2⟩, trivial⟩ ?_
    cases hf
    refine Rt.path ok_Text_keyword 1 [] rfl trivial ?_
    exact Rt.retI ok_Text_keyword rfl rfl
def b_Text_advance_2_0 (L : Nat → Int → G2 → Option (Int × G2)) (i1 : Int) (g : G2) : Option (Int × G2) :=
  if ir i1 then
  if i1 < 1600 then
    bd (f_Text_scanWord_2 g) fun r3 g3 =>
    if ir r3 then
    if r3 = 0 then
      some (0, g3)
    else
      bd (f_Text_keyword_2 g3) fun r6 g6 =>
      if ir (rI g6 1 7) then
      if (rI g6 1 7) = 0 then
        if ir r6 then
        if r6 = 40 then
          L 0 (i1 + 1) (gI g6 1 7 1)
        else
          some (1, g6)
        else none
      else
        if ir r6 then
        if r6 = 41 then
          L 0 (i1 + 1) (gI g6 1 7 0)
        else
          L 0 (i1 + 1) (gI g6 1 7 1)
        else none
      else none
    else none
  else
    some (0, g)
  else none
def l_Text_advance_2 : Nat → Nat → Int → G2 → Option (Int × G2)
  | 0 => fun _ _ _ => none
  | n + 1 => fun t i1 g => match t with
    | _ => b_Text_advance_2_0 (l_Text_advance_2 n) i1 g
set_option maxHeartbeats 4000000 in
set_option maxRecDepth 100000 in
theorem rl_Text_advance_2 (d : Nat) : ∀ (n : Nat) (i1 : Int) (g : G2) (r : Int) (g' : G2), (l_Text_advance_2 n 0 i1 g = some (r, g') → Rt (d + 1) m_Text_advance 2 [some (vR 2), some (vI i1), none] [] g (some (vI r)) g') := by
  intro n
  induction n with
  | zero => intro i1 g r g'; exact fun hf => by cases hf
  | succ n ih =>
    intro i1 g r g'
    intro hf
    replace hf : b_Text_advance_2_0 (l_Text_advance_2 n) i1 g = some (r, g') := hf
    unfold b_Text_advance_2_0 at hf
    have h1 : ir i1 := by
      by_cases q : ir i1
      · exact q
      · rw [if_neg q] at hf; cases hf
    rw [if_pos h1] at hf
    by_cases h2 : i1 < 1600
    · rw [if_pos h2] at hf
      refine Rt.path ok_Text_advance 3 [0] rfl ⟨⟨⟨h1, (show ir 1600 by decide)⟩, h2⟩, trivial⟩ ?_
      obtain ⟨r3, g3, e3, hf⟩ := bd_inv hf
      refine Rt.path ok_Text_advance 1 [] rfl trivial ?_
      refine Rt.callV ok_Text_advance rfl ml_Text_29 [] cf_Text_scanWord rfl rfl (c_Text_scanWord_2 d _ _ _ e3) (Nat.le_of_ble_eq_true rfl) ?_
      have h4 : ir r3 := by
        by_cases q : ir r3
        · exact q
        · rw [if_neg q] at hf; cases hf
      rw [if_pos h4] at hf
      by_cases h5 : r3 = 0
      · rw [if_pos h5] at hf
        refine Rt.path ok_Text_advance 1 [1] rfl ⟨⟨h4, h5⟩, trivial⟩ ?_
        cases hf
        refine Rt.path ok_Text_advance 1 [] rfl trivial ?_
        exact Rt.retZ ok_Text_advance (show (0 : Int) = 0 ∨ (0 : Int) = 1 by decide) rfl rfl
      · rw [if_neg h5] at hf
        refine Rt.path ok_Text_advance 1 [0] rfl ⟨⟨h4, h5⟩, trivial⟩ ?_
        obtain ⟨r6, g6, e6, hf⟩ := bd_inv hf
        refine Rt.path ok_Text_advance 1 [] rfl trivial ?_
        refine Rt.callV ok_Text_advance rfl ml_Text_33 [] cf_Text_keyword rfl rfl (c_Text_keyword_2 d _ _ _ e6) (Nat.le_of_ble_eq_true rfl) ?_
        have h7 : ir (rI g6 1 7) := by
          by_cases q : ir (rI g6 1 7)
          · exact q
          · rw [if_neg q] at hf; cases hf
        rw [if_pos h7] at hf
        by_cases h8 : (rI g6 1 7) = 0
        · rw [if_pos h8] at hf
          refine Rt.path ok_Text_advance 4 [1] rfl ⟨⟨h7, h8⟩, trivial⟩ ?_
          have h9 : ir r6 := by
            by_cases q : ir r6
            · exact q
            · rw [if_neg q] at hf; cases hf
          rw [if_pos h9] at hf
          by_cases h10 : r6 = 40
          · rw [if_pos h10] at hf
            refine Rt.path ok_Text_advance 3 [0] rfl ⟨⟨⟨h9, (show ir 40 by decide)⟩, h10⟩, trivial⟩ ?_
            refine Rt.path ok_Text_advance 6 [] rfl ⟨(show (1 : Int) = 0 ∨ (1 : Int) = 1 by decide), trivial⟩ ?_
            exact Rt.weak ((ih _ _ _ _) hf) ⟨rfl, rfl, trivial⟩
          · rw [if_neg h10] at hf
            refine Rt.path ok_Text_advance 3 [1] rfl ⟨⟨⟨h9, (show ir 40 by decide)⟩, h10⟩, trivial⟩ ?_
            cases hf
            refine Rt.path ok_Text_advance 1 [] rfl trivial ?_
            exact Rt.retZ ok_Text_advance (show (1 : Int) = 0 ∨ (1 : Int) = 1 by decide) rfl rfl
        · rw [if_neg h8] at hf
          refine Rt.path ok_Text_advance 4 [0] rfl ⟨⟨h7, h8⟩, trivial⟩ ?_
          have h11 : ir r6 := by
            by_cases q : ir r6
            · exact q
            · rw [if_neg q] at hf; cases hf
          rw [if_pos h11] at hf
          by_cases h12 : r6 = 41
          · rw [if_pos h12] at hf
            refine Rt.path ok_Text_advance 4 [1] rfl ⟨⟨⟨h11, (show ir 41 by decide)⟩, h12⟩, trivial⟩ ?_
            refine Rt.path ok_Text_advance 5 [] rfl ⟨(show (0 : Int) = 0 ∨ (0 : Int) = 1 by decide), trivial⟩ ?_
            exact Rt.weak ((ih _ _ _ _) hf) ⟨rfl, rfl, trivial⟩
          · rw [if_neg h12] at hf
            refine Rt.path ok_Text_advance 4 [0] rfl ⟨⟨⟨h11, (show ir 41 by decide)⟩, h12⟩, trivial⟩ ?_
            refine Rt.path ok_Text_advance 6 [] rfl ⟨(show (1 : Int) = 0 ∨ (1 : Int) = 1 by decide), trivial⟩ ?_
            exact Rt.weak ((ih _ _ _ _) hf) ⟨rfl, rfl, trivial⟩
    · rw [if_neg h2] at hf
      refine Rt.path ok_Text_advance 3 [1] rfl ⟨⟨⟨h1, (show ir 1600 by decide)⟩, (Int.not_lt.mp h2)⟩, trivial⟩ ?_
      cases hf
      refine Rt.path ok_Text_advance 1 [] rfl trivial ?_
      exact Rt.retZ ok_Text_advance (show (0 : Int) = 0 ∨ (0 : Int) = 1 by decide) rfl rfl
def f_Text_advance_2  (g : G2) : Option (Int × G2) :=
  l_Text_advance_2 20000 0 0 g
set_option maxHeartbeats 4000000 in
set_option maxRecDepth 100000 in
theorem c_Text_advance_2 (d : Nat)  (g : G2) (r : Int) (g' : G2) (hf : f_Text_advance_2 g = some (r, g')) : C2 (d + 1) m_Text_advance [vR 2] g (some (vI r)) g' := by
  unfold f_Text_advance_2 at hf
  refine C2.of rfl rfl rfl (Nat.le_of_ble_eq_true rfl) ?_
  refine Rt.path ok_Text_advance 2 [] rfl trivial ?_
  exact Rt.weak ((rl_Text_advance_2 d _ _ _ _ _) hf) ⟨rfl, rfl, trivial⟩
def f_Reader_isInside_26  (g : G2) : Option (Int × G2) :=
  if ir (rI g 25 6) then
  if (rI g 25 6) = 0 then
    if ir (rI g 26 6) then
    if 0 < (rI g 26 6) then
      some (1, g)
    else
      some (0, g)
    else none
  else
    some (1, g)
  else none
set_option maxHeartbeats 4000000 in
set_option maxRecDepth 100000 in
theorem c_Reader_isInside_26 (d : Nat)  (g : G2) (r : Int) (g' : G2) (hf : f_Reader_isInside_26 g = some (r, g')) : C2 d m_Reader_isInside [vR 26] g (some (vI r)) g' := by
  unfold f_Reader_isInside_26 at hf
  refine C2.of rfl rfl rfl (Nat.le_of_ble_eq_true rfl) ?_
  have h1 : ir (rI g 25 6) := by
    by_cases q : ir (rI g 25 6)
    · exact q
    · rw [if_neg q] at hf; cases hf
  rw [if_pos h1] at hf
  by_cases h2 : (rI g 25 6) = 0
  · rw [if_pos h2] at hf
    refine Rt.path ok_Reader_isInside 3 [0] rfl ⟨⟨h1, h2⟩, trivial⟩ ?_
    have h3 : ir (rI g 26 6) := by
      by_cases q : ir (rI g 26 6)
      · exact q
      · rw [if_neg q] at hf; cases hf
    rw [if_pos h3] at hf
    by_cases h4 : 0 < (rI g 26 6)
    · rw [if_pos h4] at hf
      refine Rt.path ok_Reader_isInside 4 [0] rfl ⟨⟨h3, h4⟩, trivial⟩ ?_
      cases hf
      refine Rt.path ok_Reader_isInside 2 [] rfl trivial ?_
      exact Rt.retZ ok_Reader_isInside (show (1 : Int) = 0 ∨ (1 : Int) = 1 by decide) rfl rfl
    · rw [if_neg h4] at hf
      refine Rt.path ok_Reader_isInside 4 [1] rfl ⟨⟨h3, (Int.not_lt.mp h4)⟩, trivial⟩ ?_
      cases hf
      refine Rt.path ok_Reader_isInside 1 [] rfl trivial ?_
      exact Rt.retZ ok_Reader_isInside (show (0 : Int) = 0 ∨ (0 : Int) = 1 by decide) rfl rfl
  · rw [if_neg h2] at hf
    refine Rt.path ok_Reader_isInside 3 [1] rfl ⟨⟨h1, h2⟩, trivial⟩ ?_
    cases hf
    refine Rt.path ok_Reader_isInside 2 [] rfl trivial ?_
    exact Rt.retZ ok_Reader_isInside (show (1 : Int) = 0 ∨ (1 : Int) = 1 by decide) rfl rfl
def f_Text_isTooLong_2  (g : G2) : Option (Int × G2) :=
  if ir ((rI g 1 4) - (rI g 1 3)) then
  if 8 < ((rI g 1 4) - (rI g 1 3)) then
    some (1, g)
  else
    some (0, g)
  else none
set_option maxHeartbeats 4000000 in
set_option maxRecDepth 100000 in
theorem c_Text_isTooLong_2 (d : Nat)  (g : G2) (r : Int) (g' : G2) (hf : f_Text_isTooLong_2 g = some (r, g')) : C2 d m_Text_isTooLong [vR 2] g (some (vI r)) g' := by
  unfold f_Text_isTooLong_2 at hf
  refine C2.of rfl rfl rfl (Nat.le_of_ble_eq_true rfl) ?_
  have h1 : ir ((rI g 1 4) - (rI g 1 3)) := by
    by_cases q : ir ((rI g 1 4) - (rI g 1 3))
    · exact q
    · rw [if_neg q] at hf; cases hf
  rw [if_pos h1] at hf
  by_cases h2 : 8 < ((rI g 1 4) - (rI g 1 3))
  · rw [if_pos h2] at hf
    refine Rt.path ok_Text_isTooLong 7 [0] rfl ⟨⟨⟨h1, (show ir 8 by decide)⟩, h2⟩, trivial⟩ ?_
    cases hf
    refine Rt.path ok_Text_isTooLong 2 [] rfl trivial ?_
    exact Rt.retZ ok_Text_isTooLong (show (1 : Int) = 0 ∨ (1 : Int) = 1 by decide) rfl rfl
  · rw [if_neg h2] at hf
    refine Rt.path ok_Text_isTooLong 7 [1] rfl ⟨⟨⟨h1, (show ir 8 by decide)⟩, (Int.not_lt.mp h2)⟩, trivial⟩ ?_
    cases hf
    refine Rt.path ok_Text_isTooLong 1 [] rfl trivial ?_
    exact Rt.retZ ok_Text_isTooLong (show (0 : Int) = 0 ∨ (0 : Int) = 1 by decide) rfl rfl
def b_Names_find_4_0 (L : Nat → Int64 → Int → G2 → Option (Int × G2)) (l1 : Int64) (i3 : Int) (g : G2) : Option (Int × G2) :=
  if ir i3 then
  if ir (rI g 3 3) then
  if i3 < (rI g 3 3) then
    if 0 ≤ i3 ∧ i3 < 60 then
    if (rB g 4 i3) = l1 then
      some (i3, g)
    else
      L 0 l1 (i3 + 1) g
    else none
  else
    some ((-1), g)
  else none
  else none
def l_Names_find_4 : Nat → Nat → Int64 → Int → G2 → Option (Int × G2)
  | 0 => fun _ _ _ _ => none
  | n + 1 => fun t l1 i3 g => match t with
    | _ => b_Names_find_4_0 (l_Names_find_4 n) l1 i3 g
set_option maxHeartbeats 4000000 in
set_option maxRecDepth 100000 in
theorem rl_Names_find_4 (d : Nat) : ∀ (n : Nat) (l1 : Int64) (i3 : Int) (g : G2) (r : Int) (g' : G2), (l_Names_find_4 n 0 l1 i3 g = some (r, g') → Rt d m_Names_find 2 [some (vR 4), some (vL l1), none, some (vI i3)] [] g (some (vI r)) g') := by
  intro n
  induction n with
  | zero => intro l1 i3 g r g'; exact fun hf => by cases hf
  | succ n ih =>
    intro l1 i3 g r g'
    intro hf
    replace hf : b_Names_find_4_0 (l_Names_find_4 n) l1 i3 g = some (r, g') := hf
    unfold b_Names_find_4_0 at hf
    have h1 : ir i3 := by
      by_cases q : ir i3
      · exact q
      · rw [if_neg q] at hf; cases hf
    rw [if_pos h1] at hf
    have h2 : ir (rI g 3 3) := by
      by_cases q : ir (rI g 3 3)
      · exact q
      · rw [if_neg q] at hf; cases hf
    rw [if_pos h2] at hf
    by_cases h3 : i3 < (rI g 3 3)
    · rw [if_pos h3] at hf
      refine Rt.path ok_Names_find 4 [0] rfl ⟨⟨⟨h1, h2⟩, h3⟩, trivial⟩ ?_
      have h4 : 0 ≤ i3 ∧ i3 < 60 := by
        by_cases q : 0 ≤ i3 ∧ i3 < 60
        · exact q
        · rw [if_neg q] at hf; cases hf
      rw [if_pos h4] at hf
      by_cases h5 : (rB g 4 i3) = l1
      · rw [if_pos h5] at hf
        refine Rt.path ok_Names_find 7 [0] rfl ⟨(ix_60 h4), ⟨(am_cmpIn _ _), (am_cmp0.mpr h5)⟩, trivial⟩ ?_
        cases hf
        refine Rt.path ok_Names_find 1 [] rfl trivial ?_
        exact Rt.retI ok_Names_find rfl rfl
      · rw [if_neg h5] at hf
        refine Rt.path ok_Names_find 7 [1] rfl ⟨(ix_60 h4), ⟨(am_cmpIn _ _), (fun q => h5 (am_cmp0.mp q))⟩, trivial⟩ ?_
        refine Rt.path ok_Names_find 2 [] rfl trivial ?_
        exact Rt.weak ((ih _ _ _ _ _) hf) ⟨rfl, rfl, rfl, trivial⟩
    · rw [if_neg h3] at hf
      refine Rt.path ok_Names_find 4 [1] rfl ⟨⟨⟨h1, h2⟩, (Int.not_lt.mp h3)⟩, trivial⟩ ?_
      cases hf
      refine Rt.path ok_Names_find 1 [] rfl trivial ?_
      exact Rt.retI ok_Names_find rfl rfl
def f_Names_find_4 (a1 : Int64) (g : G2) : Option (Int × G2) :=
  l_Names_find_4 20000 0 a1 0 g
set_option maxHeartbeats 4000000 in
set_option maxRecDepth 100000 in
theorem c_Names_find_4 (d : Nat) (a1 : Int64) (g : G2) (r : Int) (g' : G2) (hf : f_Names_find_4 a1 g = some (r, g')) : C2 d m_Names_find [vR 4, vL a1] g (some (vI r)) g' := by
  unfold f_Names_find_4 at hf
  refine C2.of rfl rfl rfl (Nat.le_of_ble_eq_true rfl) ?_
  refine Rt.path ok_Names_find 2 [] rfl trivial ?_
  exact Rt.weak ((rl_Names_find_4 d _ _ _ _ _ _) hf) ⟨rfl, rfl, rfl, trivial⟩
def f_Names_isFull_4  (g : G2) : Option (Int × G2) :=
  if ir (rI g 3 3) then
  if (rI g 3 3) < 60 then
    some (0, g)
  else
    some (1, g)
  else none
set_option maxHeartbeats 4000000 in
set_option maxRecDepth 100000 in
theorem c_Names_isFull_4 (d : Nat)  (g : G2) (r : Int) (g' : G2) (hf : f_Names_isFull_4 g = some (r, g')) : C2 d m_Names_isFull [vR 4] g (some (vI r)) g' := by
  unfold f_Names_isFull_4 at hf
  refine C2.of rfl rfl rfl (Nat.le_of_ble_eq_true rfl) ?_
  have h1 : ir (rI g 3 3) := by
    by_cases q : ir (rI g 3 3)
    · exact q
    · rw [if_neg q] at hf; cases hf
  rw [if_pos h1] at hf
  by_cases h2 : (rI g 3 3) < 60
  · rw [if_pos h2] at hf
    refine Rt.path ok_Names_isFull 4 [1] rfl ⟨⟨⟨h1, (show ir 60 by decide)⟩, h2⟩, trivial⟩ ?_
    cases hf
    refine Rt.path ok_Names_isFull 1 [] rfl trivial ?_
    exact Rt.retZ ok_Names_isFull (show (0 : Int) = 0 ∨ (0 : Int) = 1 by decide) rfl rfl
  · rw [if_neg h2] at hf
    refine Rt.path ok_Names_isFull 4 [0] rfl ⟨⟨⟨h1, (show ir 60 by decide)⟩, (Int.not_lt.mp h2)⟩, trivial⟩ ?_
    cases hf
    refine Rt.path ok_Names_isFull 2 [] rfl trivial ?_
    exact Rt.retZ ok_Names_isFull (show (1 : Int) = 0 ∨ (1 : Int) = 1 by decide) rfl rfl
def f_Expressions_isFull_11  (g : G2) : Option (Int × G2) :=
  if ir (rI g 10 4) then
  if (rI g 10 4) < 40 then
    some (0, g)
  else
    some (1, g)
  else none
set_option maxHeartbeats 4000000 in
set_option maxRecDepth 100000 in
theorem c_Expressions_isFull_11 (d : Nat)  (g : G2) (r : Int) (g' : G2) (hf : f_Expressions_isFull_11 g = some (r, g')) : C2 d m_Expressions_isFull [vR 11] g (some (vI r)) g' := by
  unfold f_Expressions_isFull_11 at hf
  refine C2.of rfl rfl rfl (Nat.le_of_ble_eq_true rfl) ?_
  have h1 : ir (rI g 10 4) := by
    by_cases q : ir (rI g 10 4)
    · exact q
    · rw [if_neg q] at hf; cases hf
  rw [if_pos h1] at hf
  by_cases h2 : (rI g 10 4) < 40
  · rw [if_pos h2] at hf
    refine Rt.path ok_Expressions_isFull 5 [1] rfl ⟨⟨⟨h1, (show ir 40 by decide)⟩, h2⟩, trivial⟩ ?_
    cases hf
    refine Rt.path ok_Expressions_isFull 1 [] rfl trivial ?_
    exact Rt.retZ ok_Expressions_isFull (show (0 : Int) = 0 ∨ (0 : Int) = 1 by decide) rfl rfl
  · rw [if_neg h2] at hf
    refine Rt.path ok_Expressions_isFull 5 [0] rfl ⟨⟨⟨h1, (show ir 40 by decide)⟩, (Int.not_lt.mp h2)⟩, trivial⟩ ?_
    cases hf
    refine Rt.path ok_Expressions_isFull 2 [] rfl trivial ?_
    exact Rt.retZ ok_Expressions_isFull (show (1 : Int) = 0 ∨ (1 : Int) = 1 by decide) rfl rfl
def f_Expressions_startRow_11  (g : G2) : Option (G2) :=
  if 0 ≤ (rI g 10 4) ∧ (rI g 10 4) < 40 then
  some (gB (gA g 12 (rI g 10 4) 0) 13 (rI g 10 4) (Int64.ofNat 0))
  else none
set_option maxHeartbeats 4000000 in
set_option maxRecDepth 100000 in
theorem c_Expressions_startRow_11 (d : Nat)  (g : G2) (g' : G2) (hf : f_Expressions_startRow_11 g = some g') : C2 d m_Expressions_startRow [vR 11] g none g' := by
  unfold f_Expressions_startRow_11 at hf
  refine C2.of rfl rfl rfl (Nat.le_of_ble_eq_true rfl) ?_
  have h1 : 0 ≤ (rI g 10 4) ∧ (rI g 10 4) < 40 := by
    by_cases q : 0 ≤ (rI g 10 4) ∧ (rI g 10 4) < 40
    · exact q
    · rw [if_neg q] at hf; cases hf
  rw [if_pos h1] at hf
  cases hf
  refine Rt.path ok_Expressions_startRow 12 [] rfl ⟨(ix_40 h1), (ix_40 h1), trivial⟩ ?_
  exact Rt.retV ok_Expressions_startRow rfl rfl
def f_Statements_start_8 (a1 : Int64) (g : G2) : Option (G2) :=
  if 0 ≤ (rI g 10 4) ∧ (rI g 10 4) < 40 then
  (f_Expressions_startRow_11 (gB g 8 (rI g 10 4) a1)).bind fun g2 =>
  some g2
  else none
set_option maxHeartbeats 4000000 in
set_option maxRecDepth 100000 in
theorem c_Statements_start_8 (d : Nat) (a1 : Int64) (g : G2) (g' : G2) (hf : f_Statements_start_8 a1 g = some g') : C2 (d + 1) m_Statements_start [vR 8, vL a1] g none g' := by
  unfold f_Statements_start_8 at hf
  refine C2.of rfl rfl rfl (Nat.le_of_ble_eq_true rfl) ?_
  have h1 : 0 ≤ (rI g 10 4) ∧ (rI g 10 4) < 40 := by
    by_cases q : 0 ≤ (rI g 10 4) ∧ (rI g 10 4) < 40
    · exact q
    · rw [if_neg q] at hf; cases hf
  rw [if_pos h1] at hf
  obtain ⟨g2, e2, hf⟩ := Option.bind_eq_some_iff.mp hf
  refine Rt.path ok_Statements_start 9 [] rfl ⟨(ix_40 h1), trivial⟩ ?_
  refine Rt.callV ok_Statements_start rfl ml_Statements_38 [] cf_Expressions_startRow rfl rfl (c_Expressions_startRow_11 d _ _ e2) (Nat.le_of_ble_eq_true rfl) ?_
  cases hf
  exact Rt.retV ok_Statements_start rfl rfl
def f_Reader_takeLabel_26 (a1 : Int64) (g : G2) : Option (Int × G2) :=
  bd (f_Names_find_4 a1 g) fun r1 g1 =>
  if ir r1 then
  if r1 = (-1) then
    bd (f_Names_isFull_4 g1) fun r4 g4 =>
    if ir r4 then
    if r4 = 0 then
      bd (f_Expressions_isFull_11 g4) fun r7 g7 =>
      if ir r7 then
      if r7 = 0 then
        (f_Statements_start_8 a1 g7).bind fun g10 =>
        some (0, (gI g10 25 6 4))
      else
        some ((-7), g7)
      else none
    else
      some ((-7), g4)
    else none
  else
    some ((-4), g1)
  else none
set_option maxHeartbeats 4000000 in
set_option maxRecDepth 100000 in
theorem c_Reader_takeLabel_26 (d : Nat) (a1 : Int64) (g : G2) (r : Int) (g' : G2) (hf : f_Reader_takeLabel_26 a1 g = some (r, g')) : C2 (d + 2) m_Reader_takeLabel [vR 26, vL a1] g (some (vI r)) g' := by
  unfold f_Reader_takeLabel_26 at hf
  refine C2.of rfl rfl rfl (Nat.le_of_ble_eq_true rfl) ?_
  obtain ⟨r1, g1, e1, hf⟩ := bd_inv hf
  refine Rt.path ok_Reader_takeLabel 3 [] rfl trivial ?_
  refine Rt.callV ok_Reader_takeLabel rfl ml_Reader_118 [vL _] cf_Names_find rfl rfl (c_Names_find_4 (d + 1) _ _ _ _ e1) (Nat.le_of_ble_eq_true rfl) ?_
  have h2 : ir r1 := by
    by_cases q : ir r1
    · exact q
    · rw [if_neg q] at hf; cases hf
  rw [if_pos h2] at hf
  by_cases h3 : r1 = (-1)
  · rw [if_pos h3] at hf
    refine Rt.path ok_Reader_takeLabel 2 [1] rfl ⟨⟨⟨h2, (show ir (-1) by decide)⟩, h3⟩, trivial⟩ ?_
    obtain ⟨r4, g4, e4, hf⟩ := bd_inv hf
    refine Rt.path ok_Reader_takeLabel 2 [] rfl trivial ?_
    refine Rt.callV ok_Reader_takeLabel rfl ml_Reader_161 [] cf_Names_isFull rfl rfl (c_Names_isFull_4 (d + 1) _ _ _ e4) (Nat.le_of_ble_eq_true rfl) ?_
    have h5 : ir r4 := by
      by_cases q : ir r4
      · exact q
      · rw [if_neg q] at hf; cases hf
    rw [if_pos h5] at hf
    by_cases h6 : r4 = 0
    · rw [if_pos h6] at hf
      refine Rt.path ok_Reader_takeLabel 1 [0] rfl ⟨⟨h5, h6⟩, trivial⟩ ?_
      obtain ⟨r7, g7, e7, hf⟩ := bd_inv hf
      refine Rt.path ok_Reader_takeLabel 3 [] rfl trivial ?_
      refine Rt.callV ok_Reader_takeLabel rfl ml_Reader_193 [] cf_Expressions_isFull rfl rfl (c_Expressions_isFull_11 (d + 1) _ _ _ e7) (Nat.le_of_ble_eq_true rfl) ?_
      have h8 : ir r7 := by
        by_cases q : ir r7
        · exact q
        · rw [if_neg q] at hf; cases hf
      rw [if_pos h8] at hf
      by_cases h9 : r7 = 0
      · rw [if_pos h9] at hf
        refine Rt.path ok_Reader_takeLabel 1 [1] rfl ⟨⟨h8, h9⟩, trivial⟩ ?_
        obtain ⟨g10, e10, hf⟩ := Option.bind_eq_some_iff.mp hf
        refine Rt.path ok_Reader_takeLabel 3 [] rfl trivial ?_
        refine Rt.callV ok_Reader_takeLabel rfl ml_Reader_194 [vL _] cf_Statements_start rfl rfl (c_Statements_start_8 d _ _ _ e10) (Nat.le_of_ble_eq_true rfl) ?_
        cases hf
        refine Rt.path ok_Reader_takeLabel 4 [] rfl trivial ?_
        exact Rt.retI ok_Reader_takeLabel rfl rfl
      · rw [if_neg h9] at hf
        refine Rt.path ok_Reader_takeLabel 1 [0] rfl ⟨⟨h8, h9⟩, trivial⟩ ?_
        cases hf
        refine Rt.path ok_Reader_takeLabel 1 [] rfl trivial ?_
        exact Rt.retI ok_Reader_takeLabel rfl rfl
    · rw [if_neg h6] at hf
      refine Rt.path ok_Reader_takeLabel 1 [1] rfl ⟨⟨h5, h6⟩, trivial⟩ ?_
      cases hf
      refine Rt.path ok_Reader_takeLabel 1 [] rfl trivial ?_
      exact Rt.retI ok_Reader_takeLabel rfl rfl
  · rw [if_neg h3] at hf
    refine Rt.path ok_Reader_takeLabel 2 [0] rfl ⟨⟨⟨h2, (show ir (-1) by decide)⟩, h3⟩, trivial⟩ ?_
    cases hf
    refine Rt.path ok_Reader_takeLabel 1 [] rfl trivial ?_
    exact Rt.retI ok_Reader_takeLabel rfl rfl
def f_Names_add_4 (a1 : Int64) (a3 : Int) (g : G2) : Option (Int × G2) :=
  if 0 ≤ (rI g 3 3) ∧ (rI g 3 3) < 60 then
  if ir a3 then
  if a3 = 0 then
    some ((rI g 3 3), (gI (gI (gA (gB g 4 (rI g 3 3) a1) 5 (rI g 3 3) a3) 3 3 ((rI g 3 3) + 1)) 3 4 ((rI g 3 4) + 1)))
  else
    if a3 = 1 then
      some ((rI g 3 3), (gJ (gI (gA (gB g 4 (rI g 3 3) a1) 5 (rI g 3 3) a3) 3 3 ((rI g 3 3) + 1)) 3 5 ((rJ g 3 5) ||| (am_shl (Int64.ofNat 1) (rI g 3 3)))))
    else
      some ((rI g 3 3), (gI (gA (gB g 4 (rI g 3 3) a1) 5 (rI g 3 3) a3) 3 3 ((rI g 3 3) + 1)))
  else none
  else none
set_option maxHeartbeats 4000000 in
set_option maxRecDepth 100000 in
theorem c_Names_add_4 (d : Nat) (a1 : Int64) (a3 : Int) (g : G2) (r : Int) (g' : G2) (hf : f_Names_add_4 a1 a3 g = some (r, g')) : C2 d m_Names_add [vR 4, vL a1, vI a3] g (some (vI r)) g' := by
  unfold f_Names_add_4 at hf
  refine C2.of rfl rfl rfl (Nat.le_of_ble_eq_true rfl) ?_
  have h1 : 0 ≤ (rI g 3 3) ∧ (rI g 3 3) < 60 := by
    by_cases q : 0 ≤ (rI g 3 3) ∧ (rI g 3 3) < 60
    · exact q
    · rw [if_neg q] at hf; cases hf
  rw [if_pos h1] at hf
  have h2 : ir a3 := by
    by_cases q : ir a3
    · exact q
    · rw [if_neg q] at hf; cases hf
  rw [if_pos h2] at hf
  by_cases h3 : a3 = 0
  · rw [if_pos h3] at hf
    refine Rt.path ok_Names_add 21 [0] rfl ⟨(ix_60 h1), (ix_60 h1), ⟨h2, h3⟩, trivial⟩ ?_
    cases hf
    refine Rt.path ok_Names_add 8 [] rfl trivial ?_
    exact Rt.retI ok_Names_add rfl rfl
  · rw [if_neg h3] at hf
    refine Rt.path ok_Names_add 21 [1] rfl ⟨(ix_60 h1), (ix_60 h1), ⟨h2, h3⟩, trivial⟩ ?_
    by_cases h4 : a3 = 1
    · rw [if_pos h4] at hf
      refine Rt.path ok_Names_add 3 [0] rfl ⟨⟨⟨h2, (show ir 1 by decide)⟩, h4⟩, trivial⟩ ?_
      cases hf
      refine Rt.path ok_Names_add 9 [] rfl trivial ?_
      exact Rt.retI ok_Names_add rfl rfl
    · rw [if_neg h4] at hf
      refine Rt.path ok_Names_add 3 [1] rfl ⟨⟨⟨h2, (show ir 1 by decide)⟩, h4⟩, trivial⟩ ?_
      cases hf
      refine Rt.path ok_Names_add 1 [] rfl trivial ?_
      exact Rt.retI ok_Names_add rfl rfl
def f_Reader_declareConstant_26 (a1 : Int64) (g : G2) : Option (Int × G2) :=
  bd (f_Names_find_4 a1 g) fun r1 g1 =>
  if ir r1 then
  if r1 = (-1) then
    bd (f_Names_isFull_4 g1) fun r4 g4 =>
    if ir r4 then
    if r4 = 0 then
      bd (f_Names_add_4 a1 0 g4) fun r7 g7 =>
      some (0, (gI g7 25 7 ((rI g7 25 7) + 1)))
    else
      some ((-7), g4)
    else none
  else
    some ((-4), g1)
  else none
set_option maxHeartbeats 4000000 in
set_option maxRecDepth 100000 in
theorem c_Reader_declareConstant_26 (d : Nat) (a1 : Int64) (g : G2) (r : Int) (g' : G2) (hf : f_Reader_declareConstant_26 a1 g = some (r, g')) : C2 (d + 1) m_Reader_declareConstant [vR 26, vL a1] g (some (vI r)) g' := by
  unfold f_Reader_declareConstant_26 at hf
  refine C2.of rfl rfl rfl (Nat.le_of_ble_eq_true rfl) ?_
  obtain ⟨r1, g1, e1, hf⟩ := bd_inv hf
  refine Rt.path ok_Reader_declareConstant 3 [] rfl trivial ?_
  refine Rt.callV ok_Reader_declareConstant rfl ml_Reader_118 [vL _] cf_Names_find rfl rfl (c_Names_find_4 d _ _ _ _ e1) (Nat.le_of_ble_eq_true rfl) ?_
  have h2 : ir r1 := by
    by_cases q : ir r1
    · exact q
    · rw [if_neg q] at hf; cases hf
  rw [if_pos h2] at hf
  by_cases h3 : r1 = (-1)
  · rw [if_pos h3] at hf
    refine Rt.path ok_Reader_declareConstant 2 [1] rfl ⟨⟨⟨h2, (show ir (-1) by decide)⟩, h3⟩, trivial⟩ ?_
    obtain ⟨r4, g4, e4, hf⟩ := bd_inv hf
    refine Rt.path ok_Reader_declareConstant 2 [] rfl trivial ?_
    refine Rt.callV ok_Reader_declareConstant rfl ml_Reader_161 [] cf_Names_isFull rfl rfl (c_Names_isFull_4 d _ _ _ e4) (Nat.le_of_ble_eq_true rfl) ?_
    have h5 : ir r4 := by
      by_cases q : ir r4
      · exact q
      · rw [if_neg q] at hf; cases hf
    rw [if_pos h5] at hf
    by_cases h6 : r4 = 0
    · rw [if_pos h6] at hf
      refine Rt.path ok_Reader_declareConstant 1 [1] rfl ⟨⟨h5, h6⟩, trivial⟩ ?_
      obtain ⟨r7, g7, e7, hf⟩ := bd_inv hf
      refine Rt.path ok_Reader_declareConstant 4 [] rfl trivial ?_
      refine Rt.callV ok_Reader_declareConstant rfl ml_Reader_164 [vL _, vI _] cf_Names_add rfl rfl (c_Names_add_4 d _ _ _ _ _ e7) (Nat.le_of_ble_eq_true rfl) ?_
      cases hf
      refine Rt.path ok_Reader_declareConstant 8 [] rfl trivial ?_
      exact Rt.retI ok_Reader_declareConstant rfl rfl
    · rw [if_neg h6] at hf
      refine Rt.path ok_Reader_declareConstant 1 [0] rfl ⟨⟨h5, h6⟩, trivial⟩ ?_
      cases hf
      refine Rt.path ok_Reader_declareConstant 1 [] rfl trivial ?_
      exact Rt.retI ok_Reader_declareConstant rfl rfl
  · rw [if_neg h3] at hf
    refine Rt.path ok_Reader_declareConstant 2 [0] rfl ⟨⟨⟨h2, (show ir (-1) by decide)⟩, h3⟩, trivial⟩ ?_
    cases hf
    refine Rt.path ok_Reader_declareConstant 1 [] rfl trivial ?_
    exact Rt.retI ok_Reader_declareConstant rfl rfl
