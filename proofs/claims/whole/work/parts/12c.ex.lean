def f_Expressions_rowHasRoom_39 (a1 : Int) (g : G2) : Option (Int × G2) :=
  if 0 ≤ (rI g 38 4) ∧ (rI g 38 4) < 1 then
  if ir ((rA g 40 (rI g 38 4)) + a1) then
  if 24 < ((rA g 40 (rI g 38 4)) + a1) then
    some (0, g)
  else
    some (1, g)
  else none
  else none
set_option maxHeartbeats 4000000 in
set_option maxRecDepth 100000 in
theorem c_Expressions_rowHasRoom_39 (d : Nat) (a1 : Int) (g : G2) (r : Int) (g' : G2) (hf : f_Expressions_rowHasRoom_39 a1 g = some (r, g')) : C2 d m_Expressions_rowHasRoom [vR 39, vI a1] g (some (vI r)) g' := by
  unfold f_Expressions_rowHasRoom_39 at hf
  refine C2.of rfl rfl rfl (Nat.le_of_ble_eq_true rfl) ?_
  have h1 : 0 ≤ (rI g 38 4) ∧ (rI g 38 4) < 1 := by
    by_cases q : 0 ≤ (rI g 38 4) ∧ (rI g 38 4) < 1
    · exact q
    · rw [if_neg q] at hf; cases hf
  rw [if_pos h1] at hf
  have h2 : ir ((rA g 40 (rI g 38 4)) + a1) := by
    by_cases q : ir ((rA g 40 (rI g 38 4)) + a1)
    · exact q
    · rw [if_neg q] at hf; cases hf
  rw [if_pos h2] at hf
  by_cases h3 : 24 < ((rA g 40 (rI g 38 4)) + a1)
  · rw [if_pos h3] at hf
    refine Rt.path ok_Expressions_rowHasRoom 9 [1] rfl ⟨(ix_1 h1), ⟨⟨h2, (show ir 24 by decide)⟩, h3⟩, trivial⟩ ?_
    cases hf
    refine Rt.path ok_Expressions_rowHasRoom 1 [] rfl trivial ?_
    exact Rt.retZ ok_Expressions_rowHasRoom (show (0 : Int) = 0 ∨ (0 : Int) = 1 by decide) rfl rfl
  · rw [if_neg h3] at hf
    refine Rt.path ok_Expressions_rowHasRoom 9 [0] rfl ⟨(ix_1 h1), ⟨⟨h2, (show ir 24 by decide)⟩, (Int.not_lt.mp h3)⟩, trivial⟩ ?_
    cases hf
    refine Rt.path ok_Expressions_rowHasRoom 2 [] rfl trivial ?_
    exact Rt.retZ ok_Expressions_rowHasRoom (show (1 : Int) = 0 ∨ (1 : Int) = 1 by decide) rfl rfl
def b_Expressions_appendBody_39_35_0 (L : Nat → Int → Int → G2 → Option (G2)) (i2 : Int) (i3 : Int) (g : G2) : Option (G2) :=
  if 0 ≤ i2 ∧ i2 < 16 then
  if ir i3 then
  if ir (rA g 36 i2) then
  if i3 < (rA g 36 i2) then
    if 0 ≤ (rI g 38 4) ∧ (rI g 38 4) < 1 then
    if 0 ≤ ((i2 * 24) + i3) ∧ ((i2 * 24) + i3) < 384 then
    if 0 ≤ (((rI g 38 4) * 24) + (rA g 40 (rI g 38 4))) ∧ (((rI g 38 4) * 24) + (rA g 40 (rI g 38 4))) < 24 then
    L 0 i2 (i3 + 1) (gA (gA g 39 (((rI g 38 4) * 24) + (rA g 40 (rI g 38 4))) (rA g 35 ((i2 * 24) + i3))) 40 (rI g 38 4) ((rA g 40 (rI g 38 4)) + 1))
    else none
    else none
    else none
  else
    if 0 ≤ (rI g 38 4) ∧ (rI g 38 4) < 1 then
    some (gB g 41 (rI g 38 4) ((rB g 41 (rI g 38 4)) ||| (rB g 37 i2)))
    else none
  else none
  else none
  else none
def l_Expressions_appendBody_39_35 : Nat → Nat → Int → Int → G2 → Option (G2)
  | 0 => fun _ _ _ _ => none
  | n + 1 => fun t i2 i3 g => match t with
    | _ => b_Expressions_appendBody_39_35_0 (l_Expressions_appendBody_39_35 n) i2 i3 g
set_option maxHeartbeats 4000000 in
set_option maxRecDepth 100000 in
theorem rl_Expressions_appendBody_39_35 (d : Nat) : ∀ (n : Nat) (i2 : Int) (i3 : Int) (g : G2) (g' : G2), (l_Expressions_appendBody_39_35 n 0 i2 i3 g = some g' → Rt d m_Expressions_appendBody 2 [some (vR 39), some (vR 35), some (vI i2), some (vI i3)] [] g none g') := by
  intro n
  induction n with
  | zero => intro i2 i3 g g'; exact fun hf => by cases hf
  | succ n ih =>
    intro i2 i3 g g'
    intro hf
    replace hf : b_Expressions_appendBody_39_35_0 (l_Expressions_appendBody_39_35 n) i2 i3 g = some g' := hf
    unfold b_Expressions_appendBody_39_35_0 at hf
    have h1 : 0 ≤ i2 ∧ i2 < 16 := by
      by_cases q : 0 ≤ i2 ∧ i2 < 16
      · exact q
      · rw [if_neg q] at hf; cases hf
    rw [if_pos h1] at hf
    have h2 : ir i3 := by
      by_cases q : ir i3
      · exact q
      · rw [if_neg q] at hf; cases hf
    rw [if_pos h2] at hf
    have h3 : ir (rA g 36 i2) := by
      by_cases q : ir (rA g 36 i2)
      · exact q
      · rw [if_neg q] at hf; cases hf
    rw [if_pos h3] at hf
    by_cases h4 : i3 < (rA g 36 i2)
    · rw [if_pos h4] at hf
      refine Rt.path ok_Expressions_appendBody 6 [0] rfl ⟨(ix_16 h1), ⟨⟨h2, h3⟩, h4⟩, trivial⟩ ?_
      have h5 : 0 ≤ (rI g 38 4) ∧ (rI g 38 4) < 1 := by
        by_cases q : 0 ≤ (rI g 38 4) ∧ (rI g 38 4) < 1
        · exact q
        · rw [if_neg q] at hf; cases hf
      rw [if_pos h5] at hf
      have h6 : 0 ≤ ((i2 * 24) + i3) ∧ ((i2 * 24) + i3) < 384 := by
        by_cases q : 0 ≤ ((i2 * 24) + i3) ∧ ((i2 * 24) + i3) < 384
        · exact q
        · rw [if_neg q] at hf; cases hf
      rw [if_pos h6] at hf
      have h7 : 0 ≤ (((rI g 38 4) * 24) + (rA g 40 (rI g 38 4))) ∧ (((rI g 38 4) * 24) + (rA g 40 (rI g 38 4))) < 24 := by
        by_cases q : 0 ≤ (((rI g 38 4) * 24) + (rA g 40 (rI g 38 4))) ∧ (((rI g 38 4) * 24) + (rA g 40 (rI g 38 4))) < 24
        · exact q
        · rw [if_neg q] at hf; cases hf
      rw [if_pos h7] at hf
      refine Rt.path ok_Expressions_appendBody 32 [] rfl ⟨(ix_1 h5), (ix_384 h6), (ix_24 h7), (ix_1 h5), (ix_1 h5), trivial⟩ ?_
      exact Rt.weak ((ih _ _ _ _) hf) ⟨rfl, rfl, rfl, rfl, trivial⟩
    · rw [if_neg h4] at hf
      refine Rt.path ok_Expressions_appendBody 6 [1] rfl ⟨(ix_16 h1), ⟨⟨h2, h3⟩, (Int.not_lt.mp h4)⟩, trivial⟩ ?_
      have h8 : 0 ≤ (rI g 38 4) ∧ (rI g 38 4) < 1 := by
        by_cases q : 0 ≤ (rI g 38 4) ∧ (rI g 38 4) < 1
        · exact q
        · rw [if_neg q] at hf; cases hf
      rw [if_pos h8] at hf
      cases hf
      refine Rt.path ok_Expressions_appendBody 12 [] rfl ⟨(ix_1 h8), (ix_16 h1), (ix_1 h8), trivial⟩ ?_
      exact Rt.retV ok_Expressions_appendBody rfl rfl
def f_Expressions_appendBody_39_35 (a2 : Int) (g : G2) : Option (G2) :=
  l_Expressions_appendBody_39_35 20000 0 a2 1 g
set_option maxHeartbeats 4000000 in
set_option maxRecDepth 100000 in
theorem c_Expressions_appendBody_39_35 (d : Nat) (a2 : Int) (g : G2) (g' : G2) (hf : f_Expressions_appendBody_39_35 a2 g = some g') : C2 d m_Expressions_appendBody [vR 39, vR 35, vI a2] g none g' := by
  unfold f_Expressions_appendBody_39_35 at hf
  refine C2.of rfl rfl rfl (Nat.le_of_ble_eq_true rfl) ?_
  refine Rt.path ok_Expressions_appendBody 2 [] rfl trivial ?_
  exact Rt.weak ((rl_Expressions_appendBody_39_35 d _ _ _ _ _) hf) ⟨rfl, rfl, rfl, rfl, trivial⟩
def f_Expressions_append_39 (a1 : Int) (a2 : Int) (g : G2) : Option (G2) :=
  if 0 ≤ (rI g 38 4) ∧ (rI g 38 4) < 1 then
  if 0 ≤ (((rI g 38 4) * 24) + (rA g 40 (rI g 38 4))) ∧ (((rI g 38 4) * 24) + (rA g 40 (rI g 38 4))) < 24 then
  if ir a2 then
  if a2 = 0 then
    some (gA (gA g 39 (((rI g 38 4) * 24) + (rA g 40 (rI g 38 4))) a1) 40 (rI g 38 4) ((rA g 40 (rI g 38 4)) + 1))
  else
    some (gB (gA (gA g 39 (((rI g 38 4) * 24) + (rA g 40 (rI g 38 4))) a1) 40 (rI g 38 4) ((rA g 40 (rI g 38 4)) + 1)) 41 (rI g 38 4) ((rB g 41 (rI g 38 4)) ||| (am_shl (Int64.ofNat 1) a1)))
  else none
  else none
  else none
set_option maxHeartbeats 4000000 in
set_option maxRecDepth 100000 in
theorem c_Expressions_append_39 (d : Nat) (a1 : Int) (a2 : Int) (g : G2) (g' : G2) (hf : f_Expressions_append_39 a1 a2 g = some g') : C2 d m_Expressions_append [vR 39, vI a1, vI a2] g none g' := by
  unfold f_Expressions_append_39 at hf
  refine C2.of rfl rfl rfl (Nat.le_of_ble_eq_true rfl) ?_
  have h1 : 0 ≤ (rI g 38 4) ∧ (rI g 38 4) < 1 := by
    by_cases q : 0 ≤ (rI g 38 4) ∧ (rI g 38 4) < 1
    · exact q
    · rw [if_neg q] at hf; cases hf
  rw [if_pos h1] at hf
  have h2 : 0 ≤ (((rI g 38 4) * 24) + (rA g 40 (rI g 38 4))) ∧ (((rI g 38 4) * 24) + (rA g 40 (rI g 38 4))) < 24 := by
    by_cases q : 0 ≤ (((rI g 38 4) * 24) + (rA g 40 (rI g 38 4))) ∧ (((rI g 38 4) * 24) + (rA g 40 (rI g 38 4))) < 24
    · exact q
    · rw [if_neg q] at hf; cases hf
  rw [if_pos h2] at hf
  have h3 : ir a2 := by
    by_cases q : ir a2
    · exact q
    · rw [if_neg q] at hf; cases hf
  rw [if_pos h3] at hf
  by_cases h4 : a2 = 0
  · rw [if_pos h4] at hf
    refine Rt.path ok_Expressions_append 25 [1] rfl ⟨(ix_1 h1), (ix_24 h2), (ix_1 h1), (ix_1 h1), ⟨h3, h4⟩, trivial⟩ ?_
    cases hf
    exact Rt.retV ok_Expressions_append rfl rfl
  · rw [if_neg h4] at hf
    refine Rt.path ok_Expressions_append 25 [0] rfl ⟨(ix_1 h1), (ix_24 h2), (ix_1 h1), (ix_1 h1), ⟨h3, h4⟩, trivial⟩ ?_
    cases hf
    refine Rt.path ok_Expressions_append 11 [] rfl ⟨(ix_1 h1), (ix_1 h1), trivial⟩ ?_
    exact Rt.retV ok_Expressions_append rfl rfl
def b_Proof_replaceIn_34_0 (L : Nat → Int → Int → G2 → Option (Int × G2)) (i1 : Int) (i3 : Int) (g : G2) : Option (Int × G2) :=
  if 0 ≤ i1 ∧ i1 < 40 then
  if ir i3 then
  if ir (rA g 12 i1) then
  if i3 < (rA g 12 i1) then
    bd (f_Expressions_symbolAt_11 i1 i3 g) fun r6 g6 =>
    if 0 ≤ r6 ∧ r6 < 60 then
    if ir (rA g6 5 r6) then
    if (rA g6 5 r6) = 1 then
      if 0 ≤ (rA g6 42 r6) ∧ (rA g6 42 r6) < 16 then
      bd (f_Expressions_rowHasRoom_39 ((rA g6 36 (rA g6 42 r6)) - 1) g6) fun r11 g11 =>
      if ir r11 then
      if r11 = 0 then
        some (0, g11)
      else
        (f_Expressions_appendBody_39_35 (rA g11 42 r6) g11).bind fun g14 =>
        L 0 i1 (i3 + 1) g14
      else none
      else none
    else
      bd (f_Expressions_rowHasRoom_39 1 g6) fun r15 g15 =>
      if ir r15 then
      if r15 = 0 then
        some (0, g15)
      else
        (f_Expressions_append_39 r6 0 g15).bind fun g18 =>
        L 0 i1 (i3 + 1) g18
      else none
    else none
    else none
  else
    some (1, g)
  else none
  else none
  else none
def l_Proof_replaceIn_34 : Nat → Nat → Int → Int → G2 → Option (Int × G2)
  | 0 => fun _ _ _ _ => none
  | n + 1 => fun t i1 i3 g => match t with
    | _ => b_Proof_replaceIn_34_0 (l_Proof_replaceIn_34 n) i1 i3 g
set_option maxHeartbeats 4000000 in
set_option maxRecDepth 100000 in
theorem rl_Proof_replaceIn_34 (d : Nat) : ∀ (n : Nat) (i1 : Int) (i3 : Int) (g : G2) (r : Int) (g' : G2), (l_Proof_replaceIn_34 n 0 i1 i3 g = some (r, g') → Rt (d + 1) m_Proof_replaceIn 17 [some (vR 34), some (vI i1), some (vR 11), some (vI i3), none, none] [] g (some (vI r)) g') := by
  intro n
  induction n with
  | zero => intro i1 i3 g r g'; exact fun hf => by cases hf
  | succ n ih =>
    intro i1 i3 g r g'
    intro hf
    replace hf : b_Proof_replaceIn_34_0 (l_Proof_replaceIn_34 n) i1 i3 g = some (r, g') := hf
    unfold b_Proof_replaceIn_34_0 at hf
    have h2 : 0 ≤ i1 ∧ i1 < 40 := by
      by_cases q : 0 ≤ i1 ∧ i1 < 40
      · exact q
      · rw [if_neg q] at hf; cases hf
    rw [if_pos h2] at hf
    have h3 : ir i3 := by
      by_cases q : ir i3
      · exact q
      · rw [if_neg q] at hf; cases hf
    rw [if_pos h3] at hf
    have h4 : ir (rA g 12 i1) := by
      by_cases q : ir (rA g 12 i1)
      · exact q
      · rw [if_neg q] at hf; cases hf
    rw [if_pos h4] at hf
    by_cases h5 : i3 < (rA g 12 i1)
    · rw [if_pos h5] at hf
      refine Rt.path ok_Proof_replaceIn 6 [0] rfl ⟨(ix_40 h2), ⟨⟨h3, h4⟩, h5⟩, trivial⟩ ?_
      obtain ⟨r6, g6, e6, hf⟩ := bd_inv hf
      refine Rt.path ok_Proof_replaceIn 3 [] rfl trivial ?_
      refine Rt.callV ok_Proof_replaceIn rfl ml_Proof_113 [vI _, vI _] cf_Expressions_symbolAt rfl rfl (c_Expressions_symbolAt_11 d _ _ _ _ _ e6) (Nat.le_of_ble_eq_true rfl) ?_
      have h7 : 0 ≤ r6 ∧ r6 < 60 := by
        by_cases q : 0 ≤ r6 ∧ r6 < 60
        · exact q
        · rw [if_neg q] at hf; cases hf
      rw [if_pos h7] at hf
      have h8 : ir (rA g6 5 r6) := by
        by_cases q : ir (rA g6 5 r6)
        · exact q
        · rw [if_neg q] at hf; cases hf
      rw [if_pos h8] at hf
      by_cases h9 : (rA g6 5 r6) = 1
      · rw [if_pos h9] at hf
        refine Rt.path ok_Proof_replaceIn 8 [0] rfl ⟨(ix_60 h7), ⟨⟨h8, (show ir 1 by decide)⟩, h9⟩, trivial⟩ ?_
        have h10 : 0 ≤ (rA g6 42 r6) ∧ (rA g6 42 r6) < 16 := by
          by_cases q : 0 ≤ (rA g6 42 r6) ∧ (rA g6 42 r6) < 16
          · exact q
          · rw [if_neg q] at hf; cases hf
        rw [if_pos h10] at hf
        obtain ⟨r11, g11, e11, hf⟩ := bd_inv hf
        refine Rt.path ok_Proof_replaceIn 18 [0] rfl ⟨⟨(show ir 1 by decide), (show ¬ (1 : Int) = (0 : Int) by decide)⟩, (ix_60 h7), (ix_16 h10), trivial⟩ ?_
        refine Rt.callV ok_Proof_replaceIn rfl ml_Proof_130 [vI _] cf_Expressions_rowHasRoom rfl rfl (c_Expressions_rowHasRoom_39 d _ _ _ _ e11) (Nat.le_of_ble_eq_true rfl) ?_
        have h12 : ir r11 := by
          by_cases q : ir r11
          · exact q
          · rw [if_neg q] at hf; cases hf
        rw [if_pos h12] at hf
        by_cases h13 : r11 = 0
        · rw [if_pos h13] at hf
          refine Rt.path ok_Proof_replaceIn 1 [0] rfl ⟨⟨h12, h13⟩, trivial⟩ ?_
          cases hf
          refine Rt.path ok_Proof_replaceIn 1 [] rfl trivial ?_
          exact Rt.retZ ok_Proof_replaceIn (show (0 : Int) = 0 ∨ (0 : Int) = 1 by decide) rfl rfl
        · rw [if_neg h13] at hf
          refine Rt.path ok_Proof_replaceIn 1 [1] rfl ⟨⟨h12, h13⟩, trivial⟩ ?_
          obtain ⟨g14, e14, hf⟩ := Option.bind_eq_some_iff.mp hf
          refine Rt.path ok_Proof_replaceIn 10 [0] rfl ⟨⟨(show ir 1 by decide), (show ¬ (1 : Int) = (0 : Int) by decide)⟩, (ix_60 h7), trivial⟩ ?_
          refine Rt.callV ok_Proof_replaceIn rfl ml_Proof_133 [vR 35, vI _] cf_Expressions_appendBody rfl rfl (c_Expressions_appendBody_39_35 d _ _ _ e14) (Nat.le_of_ble_eq_true rfl) ?_
          refine Rt.path ok_Proof_replaceIn 3 [] rfl trivial ?_
          exact Rt.weak ((ih _ _ _ _ _) hf) ⟨rfl, rfl, rfl, rfl, trivial⟩
      · rw [if_neg h9] at hf
        refine Rt.path ok_Proof_replaceIn 8 [1] rfl ⟨(ix_60 h7), ⟨⟨h8, (show ir 1 by decide)⟩, h9⟩, trivial⟩ ?_
        obtain ⟨r15, g15, e15, hf⟩ := bd_inv hf
        refine Rt.path ok_Proof_replaceIn 7 [1] rfl ⟨⟨(show ir 0 by decide), (show (0 : Int) = (0 : Int) by decide)⟩, trivial⟩ ?_
        refine Rt.callV ok_Proof_replaceIn rfl ml_Proof_130 [vI _] cf_Expressions_rowHasRoom rfl rfl (c_Expressions_rowHasRoom_39 d _ _ _ _ e15) (Nat.le_of_ble_eq_true rfl) ?_
        have h16 : ir r15 := by
          by_cases q : ir r15
          · exact q
          · rw [if_neg q] at hf; cases hf
        rw [if_pos h16] at hf
        by_cases h17 : r15 = 0
        · rw [if_pos h17] at hf
          refine Rt.path ok_Proof_replaceIn 1 [0] rfl ⟨⟨h16, h17⟩, trivial⟩ ?_
          cases hf
          refine Rt.path ok_Proof_replaceIn 1 [] rfl trivial ?_
          exact Rt.retZ ok_Proof_replaceIn (show (0 : Int) = 0 ∨ (0 : Int) = 1 by decide) rfl rfl
        · rw [if_neg h17] at hf
          refine Rt.path ok_Proof_replaceIn 1 [1] rfl ⟨⟨h16, h17⟩, trivial⟩ ?_
          obtain ⟨g18, e18, hf⟩ := Option.bind_eq_some_iff.mp hf
          refine Rt.path ok_Proof_replaceIn 6 [1] rfl ⟨⟨(show ir 0 by decide), (show (0 : Int) = (0 : Int) by decide)⟩, trivial⟩ ?_
          refine Rt.callV ok_Proof_replaceIn rfl ml_Proof_136 [vI _, vI _] cf_Expressions_append rfl rfl (c_Expressions_append_39 d _ _ _ _ e18) (Nat.le_of_ble_eq_true rfl) ?_
          refine Rt.path ok_Proof_replaceIn 2 [] rfl trivial ?_
          exact Rt.weak ((ih _ _ _ _ _) hf) ⟨rfl, rfl, rfl, rfl, trivial⟩
    · rw [if_neg h5] at hf
      refine Rt.path ok_Proof_replaceIn 6 [1] rfl ⟨(ix_40 h2), ⟨⟨h3, h4⟩, (Int.not_lt.mp h5)⟩, trivial⟩ ?_
      cases hf
      refine Rt.path ok_Proof_replaceIn 1 [] rfl trivial ?_
      exact Rt.retZ ok_Proof_replaceIn (show (1 : Int) = 0 ∨ (1 : Int) = 1 by decide) rfl rfl
def f_Proof_replaceIn_34 (a1 : Int) (g : G2) : Option (Int × G2) :=
  (f_Expressions_startRow_39 g).bind fun g1 =>
  l_Proof_replaceIn_34 20000 0 a1 0 g1
set_option maxHeartbeats 4000000 in
set_option maxRecDepth 100000 in
theorem c_Proof_replaceIn_34 (d : Nat) (a1 : Int) (g : G2) (r : Int) (g' : G2) (hf : f_Proof_replaceIn_34 a1 g = some (r, g')) : C2 (d + 1) m_Proof_replaceIn [vR 34, vI a1] g (some (vI r)) g' := by
  unfold f_Proof_replaceIn_34 at hf
  refine C2.of rfl rfl rfl (Nat.le_of_ble_eq_true rfl) ?_
  obtain ⟨g1, e1, hf⟩ := Option.bind_eq_some_iff.mp hf
  refine Rt.path ok_Proof_replaceIn 6 [] rfl trivial ?_
  refine Rt.callV ok_Proof_replaceIn rfl ml_Proof_121 [] cf_Expressions_startRow rfl rfl (c_Expressions_startRow_39 d _ _ e1) (Nat.le_of_ble_eq_true rfl) ?_
  refine Rt.path ok_Proof_replaceIn 2 [] rfl trivial ?_
  exact Rt.weak ((rl_Proof_replaceIn_34 d _ _ _ _ _ _) hf) ⟨rfl, rfl, rfl, rfl, trivial⟩
def b_Expressions_isSame_35_39_0 (L : Nat → Int → Int → Int → G2 → Option (Int × G2)) (i1 : Int) (i3 : Int) (i4 : Int) (g : G2) : Option (Int × G2) :=
  if 0 ≤ i1 ∧ i1 < 16 then
  if ir i4 then
  if ir (rA g 36 i1) then
  if i4 < (rA g 36 i1) then
    if 0 ≤ ((i1 * 24) + i4) ∧ ((i1 * 24) + i4) < 384 then
    if 0 ≤ ((i3 * 24) + i4) ∧ ((i3 * 24) + i4) < 24 then
    if ir (rA g 35 ((i1 * 24) + i4)) then
    if ir (rA g 39 ((i3 * 24) + i4)) then
    if (rA g 35 ((i1 * 24) + i4)) = (rA g 39 ((i3 * 24) + i4)) then
      L 0 i1 i3 (i4 + 1) g
    else
      some (0, g)
    else none
    else none
    else none
    else none
  else
    some (1, g)
  else none
  else none
  else none
def l_Expressions_isSame_35_39 : Nat → Nat → Int → Int → Int → G2 → Option (Int × G2)
  | 0 => fun _ _ _ _ _ => none
  | n + 1 => fun t i1 i3 i4 g => match t with
    | _ => b_Expressions_isSame_35_39_0 (l_Expressions_isSame_35_39 n) i1 i3 i4 g
set_option maxHeartbeats 4000000 in
set_option maxRecDepth 100000 in
theorem rl_Expressions_isSame_35_39 (d : Nat) : ∀ (n : Nat) (i1 : Int) (i3 : Int) (i4 : Int) (g : G2) (r : Int) (g' : G2), (l_Expressions_isSame_35_39 n 0 i1 i3 i4 g = some (r, g') → Rt d m_Expressions_isSame 20 [some (vR 35), some (vI i1), some (vR 39), some (vI i3), some (vI i4)] [] g (some (vI r)) g') := by
  intro n
  induction n with
  | zero => intro i1 i3 i4 g r g'; exact fun hf => by cases hf
  | succ n ih =>
    intro i1 i3 i4 g r g'
    intro hf
    replace hf : b_Expressions_isSame_35_39_0 (l_Expressions_isSame_35_39 n) i1 i3 i4 g = some (r, g') := hf
    unfold b_Expressions_isSame_35_39_0 at hf
    have h6 : 0 ≤ i1 ∧ i1 < 16 := by
      by_cases q : 0 ≤ i1 ∧ i1 < 16
      · exact q
      · rw [if_neg q] at hf; cases hf
    rw [if_pos h6] at hf
    have h7 : ir i4 := by
      by_cases q : ir i4
      · exact q
      · rw [if_neg q] at hf; cases hf
    rw [if_pos h7] at hf
    have h8 : ir (rA g 36 i1) := by
      by_cases q : ir (rA g 36 i1)
      · exact q
      · rw [if_neg q] at hf; cases hf
    rw [if_pos h8] at hf
    by_cases h9 : i4 < (rA g 36 i1)
    · rw [if_pos h9] at hf
      refine Rt.path ok_Expressions_isSame 6 [0] rfl ⟨(ix_16 h6), ⟨⟨h7, h8⟩, h9⟩, trivial⟩ ?_
      have h10 : 0 ≤ ((i1 * 24) + i4) ∧ ((i1 * 24) + i4) < 384 := by
        by_cases q : 0 ≤ ((i1 * 24) + i4) ∧ ((i1 * 24) + i4) < 384
        · exact q
        · rw [if_neg q] at hf; cases hf
      rw [if_pos h10] at hf
      have h11 : 0 ≤ ((i3 * 24) + i4) ∧ ((i3 * 24) + i4) < 24 := by
        by_cases q : 0 ≤ ((i3 * 24) + i4) ∧ ((i3 * 24) + i4) < 24
        · exact q
        · rw [if_neg q] at hf; cases hf
      rw [if_pos h11] at hf
      have h12 : ir (rA g 35 ((i1 * 24) + i4)) := by
        by_cases q : ir (rA g 35 ((i1 * 24) + i4))
        · exact q
        · rw [if_neg q] at hf; cases hf
      rw [if_pos h12] at hf
      have h13 : ir (rA g 39 ((i3 * 24) + i4)) := by
        by_cases q : ir (rA g 39 ((i3 * 24) + i4))
        · exact q
        · rw [if_neg q] at hf; cases hf
      rw [if_pos h13] at hf
      by_cases h14 : (rA g 35 ((i1 * 24) + i4)) = (rA g 39 ((i3 * 24) + i4))
      · rw [if_pos h14] at hf
        refine Rt.path ok_Expressions_isSame 17 [1] rfl ⟨(ix_384 h10), (ix_24 h11), ⟨⟨h12, h13⟩, h14⟩, trivial⟩ ?_
        refine Rt.path ok_Expressions_isSame 2 [] rfl trivial ?_
        exact Rt.weak ((ih _ _ _ _ _ _) hf) ⟨rfl, rfl, rfl, rfl, rfl, trivial⟩
      · rw [if_neg h14] at hf
        refine Rt.path ok_Expressions_isSame 17 [0] rfl ⟨(ix_384 h10), (ix_24 h11), ⟨⟨h12, h13⟩, h14⟩, trivial⟩ ?_
        cases hf
        refine Rt.path ok_Expressions_isSame 1 [] rfl trivial ?_
        exact Rt.retZ ok_Expressions_isSame (show (0 : Int) = 0 ∨ (0 : Int) = 1 by decide) rfl rfl
    · rw [if_neg h9] at hf
      refine Rt.path ok_Expressions_isSame 6 [1] rfl ⟨(ix_16 h6), ⟨⟨h7, h8⟩, (Int.not_lt.mp h9)⟩, trivial⟩ ?_
      cases hf
      refine Rt.path ok_Expressions_isSame 1 [] rfl trivial ?_
      exact Rt.retZ ok_Expressions_isSame (show (1 : Int) = 0 ∨ (1 : Int) = 1 by decide) rfl rfl
def f_Expressions_isSame_35_39 (a1 : Int) (a3 : Int) (g : G2) : Option (Int × G2) :=
  if 0 ≤ a1 ∧ a1 < 16 then
  if 0 ≤ a3 ∧ a3 < 1 then
  if ir (rA g 36 a1) then
  if ir (rA g 40 a3) then
  if (rA g 36 a1) = (rA g 40 a3) then
    l_Expressions_isSame_35_39 20000 0 a1 a3 0 g
  else
    some (0, g)
  else none
  else none
  else none
  else none
set_option maxHeartbeats 4000000 in
set_option maxRecDepth 100000 in
theorem c_Expressions_isSame_35_39 (d : Nat) (a1 : Int) (a3 : Int) (g : G2) (r : Int) (g' : G2) (hf : f_Expressions_isSame_35_39 a1 a3 g = some (r, g')) : C2 d m_Expressions_isSame [vR 35, vI a1, vR 39, vI a3] g (some (vI r)) g' := by
  unfold f_Expressions_isSame_35_39 at hf
  refine C2.of rfl rfl rfl (Nat.le_of_ble_eq_true rfl) ?_
  have h1 : 0 ≤ a1 ∧ a1 < 16 := by
    by_cases q : 0 ≤ a1 ∧ a1 < 16
    · exact q
    · rw [if_neg q] at hf; cases hf
  rw [if_pos h1] at hf
  have h2 : 0 ≤ a3 ∧ a3 < 1 := by
    by_cases q : 0 ≤ a3 ∧ a3 < 1
    · exact q
    · rw [if_neg q] at hf; cases hf
  rw [if_pos h2] at hf
  have h3 : ir (rA g 36 a1) := by
    by_cases q : ir (rA g 36 a1)
    · exact q
    · rw [if_neg q] at hf; cases hf
  rw [if_pos h3] at hf
  have h4 : ir (rA g 40 a3) := by
    by_cases q : ir (rA g 40 a3)
    · exact q
    · rw [if_neg q] at hf; cases hf
  rw [if_pos h4] at hf
  by_cases h5 : (rA g 36 a1) = (rA g 40 a3)
  · rw [if_pos h5] at hf
    refine Rt.path ok_Expressions_isSame 9 [1] rfl ⟨(ix_16 h1), (ix_1 h2), ⟨⟨h3, h4⟩, h5⟩, trivial⟩ ?_
    refine Rt.path ok_Expressions_isSame 2 [] rfl trivial ?_
    exact Rt.weak ((rl_Expressions_isSame_35_39 d _ _ _ _ _ _ _) hf) ⟨rfl, rfl, rfl, rfl, rfl, trivial⟩
  · rw [if_neg h5] at hf
    refine Rt.path ok_Expressions_isSame 9 [0] rfl ⟨(ix_16 h1), (ix_1 h2), ⟨⟨h3, h4⟩, h5⟩, trivial⟩ ?_
    cases hf
    refine Rt.path ok_Expressions_isSame 1 [] rfl trivial ?_
    exact Rt.retZ ok_Expressions_isSame (show (0 : Int) = 0 ∨ (0 : Int) = 1 by decide) rfl rfl
def b_Proof_bind_34_0 (L : Nat → Int → Int → Int → G2 → Option (Int × G2)) (i1 : Int) (i4 : Int) (i5 : Int) (g : G2) : Option (Int × G2) :=
  if ir i5 then
  if ir i1 then
  if i5 < i1 then
    bd (f_Statements_isMandatory_8 i1 i5 g) fun r4 g4 =>
    if ir r4 then
    if r4 = 0 then
      L 0 i1 i4 (i5 + 1) g4
    else
      if 0 ≤ i5 ∧ i5 < 40 then
      if ir (rA g4 9 i5) then
      if (rA g4 9 i5) = 0 then
        bd (f_Expressions_symbolAt_35 i4 0 g4) fun r10 g10 =>
        bd (f_Expressions_symbolAt_11 i5 0 g10) fun r11 g11 =>
        if ir r10 then
        if ir r11 then
        if r10 = r11 then
          bd (f_Expressions_symbolAt_11 i5 1 g11) fun r15 g15 =>
          if 0 ≤ r15 ∧ r15 < 60 then
          L 0 i1 (i4 + 1) (i5 + 1) (gA g15 42 r15 i4)
          else none
        else
          some (0, g11)
        else none
        else none
      else
        bd (f_Proof_replaceIn_34 i5 g4) fun r17 g17 =>
        if ir r17 then
        if r17 = 0 then
          some (0, g17)
        else
          bd (f_Expressions_isSame_35_39 i4 0 g17) fun r20 g20 =>
          if ir r20 then
          if r20 = 0 then
            some (0, g20)
          else
            L 0 i1 (i4 + 1) (i5 + 1) g20
          else none
        else none
      else none
      else none
    else none
  else
    some (1, g)
  else none
  else none
def l_Proof_bind_34 : Nat → Nat → Int → Int → Int → G2 → Option (Int × G2)
  | 0 => fun _ _ _ _ _ => none
  | n + 1 => fun t i1 i4 i5 g => match t with
    | _ => b_Proof_bind_34_0 (l_Proof_bind_34 n) i1 i4 i5 g
set_option maxHeartbeats 4000000 in
set_option maxRecDepth 100000 in
theorem rl_Proof_bind_34 (d : Nat) : ∀ (n : Nat) (i1 : Int) (i4 : Int) (i5 : Int) (g : G2) (r : Int) (g' : G2), (l_Proof_bind_34 n 0 i1 i4 i5 g = some (r, g') → Rt (d + 2) m_Proof_bind 14 [some (vR 34), some (vI i1), none, some (vR 11), some (vI i4), some (vI i5)] [] g (some (vI r)) g') := by
  intro n
  induction n with
  | zero => intro i1 i4 i5 g r g'; exact fun hf => by cases hf
  | succ n ih =>
    intro i1 i4 i5 g r g'
    intro hf
    replace hf : b_Proof_bind_34_0 (l_Proof_bind_34 n) i1 i4 i5 g = some (r, g') := hf
    unfold b_Proof_bind_34_0 at hf
    have h1 : ir i5 := by
      by_cases q : ir i5
      · exact q
      · rw [if_neg q] at hf; cases hf
    rw [if_pos h1] at hf
    have h2 : ir i1 := by
      by_cases q : ir i1
      · exact q
      · rw [if_neg q] at hf; cases hf
    rw [if_pos h2] at hf
    by_cases h3 : i5 < i1
    · rw [if_pos h3] at hf
      refine Rt.path ok_Proof_bind 3 [0] rfl ⟨⟨⟨h1, h2⟩, h3⟩, trivial⟩ ?_
      obtain ⟨r4, g4, e4, hf⟩ := bd_inv hf
      refine Rt.path ok_Proof_bind 4 [] rfl trivial ?_
      refine Rt.callV ok_Proof_bind rfl ml_Proof_107 [vI _, vI _] cf_Statements_isMandatory rfl rfl (c_Statements_isMandatory_8 (d + 1) _ _ _ _ _ e4) (Nat.le_of_ble_eq_true rfl) ?_
      have h5 : ir r4 := by
        by_cases q : ir r4
        · exact q
        · rw [if_neg q] at hf; cases hf
      rw [if_pos h5] at hf
      by_cases h6 : r4 = 0
      · rw [if_pos h6] at hf
        refine Rt.path ok_Proof_bind 1 [0] rfl ⟨⟨h5, h6⟩, trivial⟩ ?_
        refine Rt.path ok_Proof_bind 3 [] rfl trivial ?_
        exact Rt.weak ((ih _ _ _ _ _ _) hf) ⟨rfl, rfl, rfl, rfl, rfl, trivial⟩
      · rw [if_neg h6] at hf
        refine Rt.path ok_Proof_bind 1 [1] rfl ⟨⟨h5, h6⟩, trivial⟩ ?_
        have h7 : 0 ≤ i5 ∧ i5 < 40 := by
          by_cases q : 0 ≤ i5 ∧ i5 < 40
          · exact q
          · rw [if_neg q] at hf; cases hf
        rw [if_pos h7] at hf
        have h8 : ir (rA g4 9 i5) := by
          by_cases q : ir (rA g4 9 i5)
          · exact q
          · rw [if_neg q] at hf; cases hf
        rw [if_pos h8] at hf
        by_cases h9 : (rA g4 9 i5) = 0
        · rw [if_pos h9] at hf
          refine Rt.path ok_Proof_bind 6 [0] rfl ⟨(ix_40 h7), ⟨h8, h9⟩, trivial⟩ ?_
          obtain ⟨r10, g10, e10, hf⟩ := bd_inv hf
          refine Rt.path ok_Proof_bind 4 [] rfl trivial ?_
          refine Rt.callV ok_Proof_bind rfl ml_Proof_113 [vI _, vI _] cf_Expressions_symbolAt rfl rfl (c_Expressions_symbolAt_35 (d + 1) _ _ _ _ _ e10) (Nat.le_of_ble_eq_true rfl) ?_
          obtain ⟨r11, g11, e11, hf⟩ := bd_inv hf
          refine Rt.path ok_Proof_bind 3 [] rfl trivial ?_
          refine Rt.callV ok_Proof_bind rfl ml_Proof_113 [vI _, vI _] cf_Expressions_symbolAt rfl rfl (c_Expressions_symbolAt_11 (d + 1) _ _ _ _ _ e11) (Nat.le_of_ble_eq_true rfl) ?_
          have h12 : ir r10 := by
            by_cases q : ir r10
            · exact q
            · rw [if_neg q] at hf; cases hf
          rw [if_pos h12] at hf
          have h13 : ir r11 := by
            by_cases q : ir r11
            · exact q
            · rw [if_neg q] at hf; cases hf
          rw [if_pos h13] at hf
          by_cases h14 : r10 = r11
          · rw [if_pos h14] at hf
            refine Rt.path ok_Proof_bind 1 [1] rfl ⟨⟨⟨h12, h13⟩, h14⟩, trivial⟩ ?_
            obtain ⟨r15, g15, e15, hf⟩ := bd_inv hf
            refine Rt.path ok_Proof_bind 5 [] rfl trivial ?_
            refine Rt.callV ok_Proof_bind rfl ml_Proof_113 [vI _, vI _] cf_Expressions_symbolAt rfl rfl (c_Expressions_symbolAt_11 (d + 1) _ _ _ _ _ e15) (Nat.le_of_ble_eq_true rfl) ?_
            have h16 : 0 ≤ r15 ∧ r15 < 60 := by
              by_cases q : 0 ≤ r15 ∧ r15 < 60
              · exact q
              · rw [if_neg q] at hf; cases hf
            rw [if_pos h16] at hf
            refine Rt.path ok_Proof_bind 6 [] rfl ⟨(ix_60 h16), trivial⟩ ?_
            exact Rt.weak ((ih _ _ _ _ _ _) hf) ⟨rfl, rfl, rfl, rfl, rfl, trivial⟩
          · rw [if_neg h14] at hf
            refine Rt.path ok_Proof_bind 1 [0] rfl ⟨⟨⟨h12, h13⟩, h14⟩, trivial⟩ ?_
            cases hf
            refine Rt.path ok_Proof_bind 1 [] rfl trivial ?_
            exact Rt.retZ ok_Proof_bind (show (0 : Int) = 0 ∨ (0 : Int) = 1 by decide) rfl rfl
        · rw [if_neg h9] at hf
          refine Rt.path ok_Proof_bind 6 [1] rfl ⟨(ix_40 h7), ⟨h8, h9⟩, trivial⟩ ?_
          obtain ⟨r17, g17, e17, hf⟩ := bd_inv hf
          refine Rt.path ok_Proof_bind 2 [] rfl trivial ?_
          refine Rt.callV ok_Proof_bind rfl ml_Proof_90 [vI _] cf_Proof_replaceIn rfl rfl (c_Proof_replaceIn_34 d _ _ _ _ e17) (Nat.le_of_ble_eq_true rfl) ?_
          have h18 : ir r17 := by
            by_cases q : ir r17
            · exact q
            · rw [if_neg q] at hf; cases hf
          rw [if_pos h18] at hf
          by_cases h19 : r17 = 0
          · rw [if_pos h19] at hf
            refine Rt.path ok_Proof_bind 1 [1] rfl ⟨⟨h18, h19⟩, trivial⟩ ?_
            cases hf
            refine Rt.path ok_Proof_bind 1 [] rfl trivial ?_
            exact Rt.retZ ok_Proof_bind (show (0 : Int) = 0 ∨ (0 : Int) = 1 by decide) rfl rfl
          · rw [if_neg h19] at hf
            refine Rt.path ok_Proof_bind 1 [0] rfl ⟨⟨h18, h19⟩, trivial⟩ ?_
            obtain ⟨r20, g20, e20, hf⟩ := bd_inv hf
            refine Rt.path ok_Proof_bind 6 [] rfl trivial ?_
            refine Rt.callV ok_Proof_bind rfl ml_Proof_117 [vI _, vR 39, vI _] cf_Expressions_isSame rfl rfl (c_Expressions_isSame_35_39 (d + 1) _ _ _ _ _ e20) (Nat.le_of_ble_eq_true rfl) ?_
            have h21 : ir r20 := by
              by_cases q : ir r20
              · exact q
              · rw [if_neg q] at hf; cases hf
            rw [if_pos h21] at hf
            by_cases h22 : r20 = 0
            · rw [if_pos h22] at hf
              refine Rt.path ok_Proof_bind 1 [0] rfl ⟨⟨h21, h22⟩, trivial⟩ ?_
              cases hf
              refine Rt.path ok_Proof_bind 1 [] rfl trivial ?_
              exact Rt.retZ ok_Proof_bind (show (0 : Int) = 0 ∨ (0 : Int) = 1 by decide) rfl rfl
            · rw [if_neg h22] at hf
              refine Rt.path ok_Proof_bind 1 [1] rfl ⟨⟨h21, h22⟩, trivial⟩ ?_
              refine Rt.path ok_Proof_bind 3 [] rfl trivial ?_
              exact Rt.weak ((ih _ _ _ _ _ _) hf) ⟨rfl, rfl, rfl, rfl, rfl, trivial⟩
    · rw [if_neg h3] at hf
      refine Rt.path ok_Proof_bind 3 [1] rfl ⟨⟨⟨h1, h2⟩, (Int.not_lt.mp h3)⟩, trivial⟩ ?_
      cases hf
      refine Rt.path ok_Proof_bind 1 [] rfl trivial ?_
      exact Rt.retZ ok_Proof_bind (show (1 : Int) = 0 ∨ (1 : Int) = 1 by decide) rfl rfl
def f_Proof_bind_34 (a1 : Int) (a2 : Int) (g : G2) : Option (Int × G2) :=
  l_Proof_bind_34 20000 0 a1 a2 0 g
set_option maxHeartbeats 4000000 in
set_option maxRecDepth 100000 in
theorem c_Proof_bind_34 (d : Nat) (a1 : Int) (a2 : Int) (g : G2) (r : Int) (g' : G2) (hf : f_Proof_bind_34 a1 a2 g = some (r, g')) : C2 (d + 2) m_Proof_bind [vR 34, vI a1, vI a2] g (some (vI r)) g' := by
  unfold f_Proof_bind_34 at hf
  refine C2.of rfl rfl rfl (Nat.le_of_ble_eq_true rfl) ?_
  refine Rt.path ok_Proof_bind 8 [] rfl trivial ?_
  exact Rt.weak ((rl_Proof_bind_34 d _ _ _ _ _ _ _) hf) ⟨rfl, rfl, rfl, rfl, rfl, trivial⟩
def f_Assertions_firstOfPair_17 (a1 : Int) (a2 : Int) (g : G2) : Option (Int × G2) :=
  if 0 ≤ ((a1 * 40) + a2) ∧ ((a1 * 40) + a2) < 1600 then
  bd (f_Context_firstOf (rA g 19 ((a1 * 40) + a2)) g) fun r2 g2 =>
  some (r2, g2)
  else none
set_option maxHeartbeats 4000000 in
set_option maxRecDepth 100000 in
theorem c_Assertions_firstOfPair_17 (d : Nat) (a1 : Int) (a2 : Int) (g : G2) (r : Int) (g' : G2) (hf : f_Assertions_firstOfPair_17 a1 a2 g = some (r, g')) : C2 (d + 1) m_Assertions_firstOfPair [vR 17, vI a1, vI a2] g (some (vI r)) g' := by
  unfold f_Assertions_firstOfPair_17 at hf
  refine C2.of rfl rfl rfl (Nat.le_of_ble_eq_true rfl) ?_
  have h1 : 0 ≤ ((a1 * 40) + a2) ∧ ((a1 * 40) + a2) < 1600 := by
    by_cases q : 0 ≤ ((a1 * 40) + a2) ∧ ((a1 * 40) + a2) < 1600
    · exact q
    · rw [if_neg q] at hf; cases hf
  rw [if_pos h1] at hf
  obtain ⟨r2, g2, e2, hf⟩ := bd_inv hf
  refine Rt.path ok_Assertions_firstOfPair 8 [] rfl ⟨(ix_1600 h1), trivial⟩ ?_
  refine Rt.callS ok_Assertions_firstOfPair rfl ml_Assertions_49 [vI _] cf_Context_firstOf (c_Context_firstOf d _ _ _ _ e2) (Nat.le_of_ble_eq_true rfl) ?_
  cases hf
  exact Rt.retI ok_Assertions_firstOfPair rfl rfl
def f_Assertions_secondOfPair_17 (a1 : Int) (a2 : Int) (g : G2) : Option (Int × G2) :=
  if 0 ≤ ((a1 * 40) + a2) ∧ ((a1 * 40) + a2) < 1600 then
  bd (f_Context_secondOf (rA g 19 ((a1 * 40) + a2)) g) fun r2 g2 =>
  some (r2, g2)
  else none
set_option maxHeartbeats 4000000 in
set_option maxRecDepth 100000 in
theorem c_Assertions_secondOfPair_17 (d : Nat) (a1 : Int) (a2 : Int) (g : G2) (r : Int) (g' : G2) (hf : f_Assertions_secondOfPair_17 a1 a2 g = some (r, g')) : C2 (d + 1) m_Assertions_secondOfPair [vR 17, vI a1, vI a2] g (some (vI r)) g' := by
  unfold f_Assertions_secondOfPair_17 at hf
  refine C2.of rfl rfl rfl (Nat.le_of_ble_eq_true rfl) ?_
  have h1 : 0 ≤ ((a1 * 40) + a2) ∧ ((a1 * 40) + a2) < 1600 := by
    by_cases q : 0 ≤ ((a1 * 40) + a2) ∧ ((a1 * 40) + a2) < 1600
    · exact q
    · rw [if_neg q] at hf; cases hf
  rw [if_pos h1] at hf
  obtain ⟨r2, g2, e2, hf⟩ := bd_inv hf
  refine Rt.path ok_Assertions_secondOfPair 8 [] rfl ⟨(ix_1600 h1), trivial⟩ ?_
  refine Rt.callS ok_Assertions_secondOfPair rfl ml_Assertions_53 [vI _] cf_Context_secondOf (c_Context_secondOf d _ _ _ _ e2) (Nat.le_of_ble_eq_true rfl) ?_
  cases hf
  exact Rt.retI ok_Assertions_secondOfPair rfl rfl
def b_Context_areApart_27_0 (L : Nat → Int64 → Int64 → Int → G2 → Option (Int × G2)) (l1 : Int64) (l3 : Int64) (i5 : Int) (g : G2) : Option (Int × G2) :=
  if ir i5 then
  if i5 < 60 then
    if (am_ushr l1 i5) = (Int64.ofNat 0) then
      some (1, g)
    else
      if ((am_ushr l1 i5) &&& (Int64.ofNat 1)) = (Int64.ofNat 0) then
        L 0 l1 l3 (i5 + 1) g
      else
        if 0 ≤ i5 ∧ i5 < 60 then
        if (l3 &&& ((rB g 28 i5) ^^^ (Int64.ofNat 18446744073709551615))) = (Int64.ofNat 0) then
          L 0 l1 l3 (i5 + 1) g
        else
          some (0, g)
        else none
  else
    some (1, g)
  else none
def l_Context_areApart_27 : Nat → Nat → Int64 → Int64 → Int → G2 → Option (Int × G2)
  | 0 => fun _ _ _ _ _ => none
  | n + 1 => fun t l1 l3 i5 g => match t with
    | _ => b_Context_areApart_27_0 (l_Context_areApart_27 n) l1 l3 i5 g
set_option maxHeartbeats 4000000 in
set_option maxRecDepth 100000 in
theorem rl_Context_areApart_27 (d : Nat) : ∀ (n : Nat) (l1 : Int64) (l3 : Int64) (i5 : Int) (g : G2) (r : Int) (g' : G2), (l_Context_areApart_27 n 0 l1 l3 i5 g = some (r, g') → Rt d m_Context_areApart 3 [some (vR 27), some (vL l1), none, some (vL l3), none, some (vI i5)] [] g (some (vI r)) g') := by
  intro n
  induction n with
  | zero => intro l1 l3 i5 g r g'; exact fun hf => by cases hf
  | succ n ih =>
    intro l1 l3 i5 g r g'
    intro hf
    replace hf : b_Context_areApart_27_0 (l_Context_areApart_27 n) l1 l3 i5 g = some (r, g') := hf
    unfold b_Context_areApart_27_0 at hf
    have h1 : ir i5 := by
      by_cases q : ir i5
      · exact q
      · rw [if_neg q] at hf; cases hf
    rw [if_pos h1] at hf
    by_cases h2 : i5 < 60
    · rw [if_pos h2] at hf
      refine Rt.path ok_Context_areApart 3 [0] rfl ⟨⟨⟨h1, (show ir 60 by decide)⟩, h2⟩, trivial⟩ ?_
      by_cases h3 : (am_ushr l1 i5) = (Int64.ofNat 0)
      · rw [if_pos h3] at hf
        refine Rt.path ok_Context_areApart 6 [1] rfl ⟨⟨(am_cmpIn _ _), (am_cmp0.mpr h3)⟩, trivial⟩ ?_
        cases hf
        refine Rt.path ok_Context_areApart 1 [] rfl trivial ?_
        exact Rt.retZ ok_Context_areApart (show (1 : Int) = 0 ∨ (1 : Int) = 1 by decide) rfl rfl
      · rw [if_neg h3] at hf
        refine Rt.path ok_Context_areApart 6 [0] rfl ⟨⟨(am_cmpIn _ _), (fun q => h3 (am_cmp0.mp q))⟩, trivial⟩ ?_
        by_cases h4 : ((am_ushr l1 i5) &&& (Int64.ofNat 1)) = (Int64.ofNat 0)
        · rw [if_pos h4] at hf
          refine Rt.path ok_Context_areApart 8 [1] rfl ⟨⟨(am_cmpIn _ _), (am_cmp0.mpr h4)⟩, trivial⟩ ?_
          refine Rt.path ok_Context_areApart 2 [] rfl trivial ?_
          exact Rt.weak ((ih _ _ _ _ _ _) hf) ⟨rfl, rfl, rfl, rfl, trivial⟩
        · rw [if_neg h4] at hf
          refine Rt.path ok_Context_areApart 8 [0] rfl ⟨⟨(am_cmpIn _ _), (fun q => h4 (am_cmp0.mp q))⟩, trivial⟩ ?_
          have h5 : 0 ≤ i5 ∧ i5 < 60 := by
            by_cases q : 0 ≤ i5 ∧ i5 < 60
            · exact q
            · rw [if_neg q] at hf; cases hf
          rw [if_pos h5] at hf
          by_cases h6 : (l3 &&& ((rB g 28 i5) ^^^ (Int64.ofNat 18446744073709551615))) = (Int64.ofNat 0)
          · rw [if_pos h6] at hf
            refine Rt.path ok_Context_areApart 11 [1] rfl ⟨(ix_60 h5), ⟨(am_cmpIn _ _), (am_cmp0.mpr h6)⟩, trivial⟩ ?_
            refine Rt.path ok_Context_areApart 2 [] rfl trivial ?_
            exact Rt.weak ((ih _ _ _ _ _ _) hf) ⟨rfl, rfl, rfl, rfl, trivial⟩
          · rw [if_neg h6] at hf
            refine Rt.path ok_Context_areApart 11 [0] rfl ⟨(ix_60 h5), ⟨(am_cmpIn _ _), (fun q => h6 (am_cmp0.mp q))⟩, trivial⟩ ?_
            cases hf
            refine Rt.path ok_Context_areApart 1 [] rfl trivial ?_
            exact Rt.retZ ok_Context_areApart (show (0 : Int) = 0 ∨ (0 : Int) = 1 by decide) rfl rfl
    · rw [if_neg h2] at hf
      refine Rt.path ok_Context_areApart 3 [1] rfl ⟨⟨⟨h1, (show ir 60 by decide)⟩, (Int.not_lt.mp h2)⟩, trivial⟩ ?_
      cases hf
      refine Rt.path ok_Context_areApart 1 [] rfl trivial ?_
      exact Rt.retZ ok_Context_areApart (show (1 : Int) = 0 ∨ (1 : Int) = 1 by decide) rfl rfl
def f_Context_areApart_27 (a1 : Int64) (a3 : Int64) (g : G2) : Option (Int × G2) :=
  l_Context_areApart_27 20000 0 a1 a3 0 g
set_option maxHeartbeats 4000000 in
set_option maxRecDepth 100000 in
theorem c_Context_areApart_27 (d : Nat) (a1 : Int64) (a3 : Int64) (g : G2) (r : Int) (g' : G2) (hf : f_Context_areApart_27 a1 a3 g = some (r, g')) : C2 d m_Context_areApart [vR 27, vL a1, vL a3] g (some (vI r)) g' := by
  unfold f_Context_areApart_27 at hf
  refine C2.of rfl rfl rfl (Nat.le_of_ble_eq_true rfl) ?_
  refine Rt.path ok_Context_areApart 2 [] rfl trivial ?_
  exact Rt.weak ((rl_Context_areApart_27 d _ _ _ _ _ _ _) hf) ⟨rfl, rfl, rfl, rfl, trivial⟩
def b_Proof_keepsApart_34_0 (L : Nat → Int → Int → G2 → Option (Int × G2)) (i1 : Int) (i2 : Int) (g : G2) : Option (Int × G2) :=
  if 0 ≤ i1 ∧ i1 < 40 then
  if ir i2 then
  if ir (rA g 18 i1) then
  if i2 < (rA g 18 i1) then
    bd (f_Assertions_firstOfPair_17 i1 i2 g) fun r5 g5 =>
    if 0 ≤ r5 ∧ r5 < 60 then
    bd (f_Assertions_secondOfPair_17 i1 i2 g5) fun r7 g7 =>
    if 0 ≤ r7 ∧ r7 < 60 then
    if 0 ≤ (rA g5 42 r5) ∧ (rA g5 42 r5) < 16 then
    if 0 ≤ (rA g7 42 r7) ∧ (rA g7 42 r7) < 16 then
    bd (f_Context_areApart_27 (rB g7 37 (rA g5 42 r5)) (rB g7 37 (rA g7 42 r7)) g7) fun r11 g11 =>
    if ir r11 then
    if r11 = 0 then
      some (0, g11)
    else
      L 0 i1 (i2 + 1) g11
    else none
    else none
    else none
    else none
    else none
  else
    some (1, g)
  else none
  else none
  else none
def l_Proof_keepsApart_34 : Nat → Nat → Int → Int → G2 → Option (Int × G2)
  | 0 => fun _ _ _ _ => none
  | n + 1 => fun t i1 i2 g => match t with
    | _ => b_Proof_keepsApart_34_0 (l_Proof_keepsApart_34 n) i1 i2 g
set_option maxHeartbeats 4000000 in
set_option maxRecDepth 100000 in
theorem rl_Proof_keepsApart_34 (d : Nat) : ∀ (n : Nat) (i1 : Int) (i2 : Int) (g : G2) (r : Int) (g' : G2), (l_Proof_keepsApart_34 n 0 i1 i2 g = some (r, g') → Rt (d + 2) m_Proof_keepsApart 2 [some (vR 34), some (vI i1), some (vI i2), none, none] [] g (some (vI r)) g') := by
  intro n
  induction n with
  | zero => intro i1 i2 g r g'; exact fun hf => by cases hf
  | succ n ih =>
    intro i1 i2 g r g'
    intro hf
    replace hf : b_Proof_keepsApart_34_0 (l_Proof_keepsApart_34 n) i1 i2 g = some (r, g') := hf
    unfold b_Proof_keepsApart_34_0 at hf
    have h1 : 0 ≤ i1 ∧ i1 < 40 := by
      by_cases q : 0 ≤ i1 ∧ i1 < 40
      · exact q
      · rw [if_neg q] at hf; cases hf
    rw [if_pos h1] at hf
    have h2 : ir i2 := by
      by_cases q : ir i2
      · exact q
      · rw [if_neg q] at hf; cases hf
    rw [if_pos h2] at hf
    have h3 : ir (rA g 18 i1) := by
      by_cases q : ir (rA g 18 i1)
      · exact q
      · rw [if_neg q] at hf; cases hf
    rw [if_pos h3] at hf
    by_cases h4 : i2 < (rA g 18 i1)
    · rw [if_pos h4] at hf
      refine Rt.path ok_Proof_keepsApart 7 [0] rfl ⟨(ix_40 h1), ⟨⟨h2, h3⟩, h4⟩, trivial⟩ ?_
      obtain ⟨r5, g5, e5, hf⟩ := bd_inv hf
      refine Rt.path ok_Proof_keepsApart 6 [] rfl trivial ?_
      refine Rt.callV ok_Proof_keepsApart rfl ml_Proof_143 [vI _, vI _] cf_Assertions_firstOfPair rfl rfl (c_Assertions_firstOfPair_17 d _ _ _ _ _ e5) (Nat.le_of_ble_eq_true rfl) ?_
      have h6 : 0 ≤ r5 ∧ r5 < 60 := by
        by_cases q : 0 ≤ r5 ∧ r5 < 60
        · exact q
        · rw [if_neg q] at hf; cases hf
      rw [if_pos h6] at hf
      obtain ⟨r7, g7, e7, hf⟩ := bd_inv hf
      refine Rt.path ok_Proof_keepsApart 8 [] rfl ⟨(ix_60 h6), trivial⟩ ?_
      refine Rt.callV ok_Proof_keepsApart rfl ml_Proof_146 [vI _, vI _] cf_Assertions_secondOfPair rfl rfl (c_Assertions_secondOfPair_17 d _ _ _ _ _ e7) (Nat.le_of_ble_eq_true rfl) ?_
      have h8 : 0 ≤ r7 ∧ r7 < 60 := by
        by_cases q : 0 ≤ r7 ∧ r7 < 60
        · exact q
        · rw [if_neg q] at hf; cases hf
      rw [if_pos h8] at hf
      have h9 : 0 ≤ (rA g5 42 r5) ∧ (rA g5 42 r5) < 16 := by
        by_cases q : 0 ≤ (rA g5 42 r5) ∧ (rA g5 42 r5) < 16
        · exact q
        · rw [if_neg q] at hf; cases hf
      rw [if_pos h9] at hf
      have h10 : 0 ≤ (rA g7 42 r7) ∧ (rA g7 42 r7) < 16 := by
        by_cases q : 0 ≤ (rA g7 42 r7) ∧ (rA g7 42 r7) < 16
        · exact q
        · rw [if_neg q] at hf; cases hf
      rw [if_pos h10] at hf
      obtain ⟨r11, g11, e11, hf⟩ := bd_inv hf
      refine Rt.path ok_Proof_keepsApart 14 [] rfl ⟨(ix_60 h8), (ix_16 h9), (ix_16 h10), trivial⟩ ?_
      refine Rt.callV ok_Proof_keepsApart rfl ml_Proof_152 [vL _, vL _] cf_Context_areApart rfl rfl (c_Context_areApart_27 (d + 1) _ _ _ _ _ e11) (Nat.le_of_ble_eq_true rfl) ?_
      have h12 : ir r11 := by
        by_cases q : ir r11
        · exact q
        · rw [if_neg q] at hf; cases hf
      rw [if_pos h12] at hf
      by_cases h13 : r11 = 0
      · rw [if_pos h13] at hf
        refine Rt.path ok_Proof_keepsApart 1 [0] rfl ⟨⟨h12, h13⟩, trivial⟩ ?_
        cases hf
        refine Rt.path ok_Proof_keepsApart 1 [] rfl trivial ?_
        exact Rt.retZ ok_Proof_keepsApart (show (0 : Int) = 0 ∨ (0 : Int) = 1 by decide) rfl rfl
      · rw [if_neg h13] at hf
        refine Rt.path ok_Proof_keepsApart 1 [1] rfl ⟨⟨h12, h13⟩, trivial⟩ ?_
        refine Rt.path ok_Proof_keepsApart 2 [] rfl trivial ?_
        exact Rt.weak ((ih _ _ _ _ _) hf) ⟨rfl, rfl, rfl, trivial⟩
    · rw [if_neg h4] at hf
      refine Rt.path ok_Proof_keepsApart 7 [1] rfl ⟨(ix_40 h1), ⟨⟨h2, h3⟩, (Int.not_lt.mp h4)⟩, trivial⟩ ?_
      cases hf
      refine Rt.path ok_Proof_keepsApart 1 [] rfl trivial ?_
      exact Rt.retZ ok_Proof_keepsApart (show (1 : Int) = 0 ∨ (1 : Int) = 1 by decide) rfl rfl
def f_Proof_keepsApart_34 (a1 : Int) (g : G2) : Option (Int × G2) :=
  l_Proof_keepsApart_34 20000 0 a1 0 g
set_option maxHeartbeats 4000000 in
set_option maxRecDepth 100000 in
theorem c_Proof_keepsApart_34 (d : Nat) (a1 : Int) (g : G2) (r : Int) (g' : G2) (hf : f_Proof_keepsApart_34 a1 g = some (r, g')) : C2 (d + 2) m_Proof_keepsApart [vR 34, vI a1] g (some (vI r)) g' := by
  unfold f_Proof_keepsApart_34 at hf
  refine C2.of rfl rfl rfl (Nat.le_of_ble_eq_true rfl) ?_
  refine Rt.path ok_Proof_keepsApart 2 [] rfl trivial ?_
  exact Rt.weak ((rl_Proof_keepsApart_34 d _ _ _ _ _ _) hf) ⟨rfl, rfl, rfl, trivial⟩
def f_Assertions_noteUse_17 (a1 : Int) (g : G2) : Option (G2) :=
  if 0 ≤ (((rI g 16 8) * 40) + a1) ∧ (((rI g 16 8) * 40) + a1) < 1600 then
  if 0 ≤ (rI g 16 8) ∧ (rI g 16 8) < 40 then
  if ir (rA g 24 (rI g 16 8)) then
  if (rA g 24 (rI g 16 8)) = 0 then
    some (gA (gA g 22 (((rI g 16 8) * 40) + a1) ((rA g 22 (((rI g 16 8) * 40) + a1)) + 1)) 24 (rI g 16 8) 0)
  else
    if 0 ≤ a1 ∧ a1 < 40 then
    if ir (rA g 24 a1) then
    if (rA g 24 a1) = 0 then
      some (gA (gA g 22 (((rI g 16 8) * 40) + a1) ((rA g 22 (((rI g 16 8) * 40) + a1)) + 1)) 24 (rI g 16 8) 0)
    else
      some (gA (gA g 22 (((rI g 16 8) * 40) + a1) ((rA g 22 (((rI g 16 8) * 40) + a1)) + 1)) 24 (rI g 16 8) 1)
    else none
    else none
  else none
  else none
  else none
set_option maxHeartbeats 4000000 in
set_option maxRecDepth 100000 in
theorem c_Assertions_noteUse_17 (d : Nat) (a1 : Int) (g : G2) (g' : G2) (hf : f_Assertions_noteUse_17 a1 g = some g') : C2 d m_Assertions_noteUse [vR 17, vI a1] g none g' := by
  unfold f_Assertions_noteUse_17 at hf
  refine C2.of rfl rfl rfl (Nat.le_of_ble_eq_true rfl) ?_
  have h1 : 0 ≤ (((rI g 16 8) * 40) + a1) ∧ (((rI g 16 8) * 40) + a1) < 1600 := by
    by_cases q : 0 ≤ (((rI g 16 8) * 40) + a1) ∧ (((rI g 16 8) * 40) + a1) < 1600
    · exact q
    · rw [if_neg q] at hf; cases hf
  rw [if_pos h1] at hf
  have h2 : 0 ≤ (rI g 16 8) ∧ (rI g 16 8) < 40 := by
    by_cases q : 0 ≤ (rI g 16 8) ∧ (rI g 16 8) < 40
    · exact q
    · rw [if_neg q] at hf; cases hf
  rw [if_pos h2] at hf
  have h3 : ir (rA g 24 (rI g 16 8)) := by
    by_cases q : ir (rA g 24 (rI g 16 8))
    · exact q
    · rw [if_neg q] at hf; cases hf
  rw [if_pos h3] at hf
  by_cases h4 : (rA g 24 (rI g 16 8)) = 0
  · rw [if_pos h4] at hf
    refine Rt.path ok_Assertions_noteUse 23 [1] rfl ⟨(ix_1600 h1), (ix_1600 h1), (ix_40 h2), ⟨h3, h4⟩, trivial⟩ ?_
    cases hf
    refine Rt.path ok_Assertions_noteUse 2 [] rfl ⟨⟨(ix_40 h2), (show (0 : Int) = 0 ∨ (0 : Int) = 1 by decide)⟩, trivial⟩ ?_
    exact Rt.retV ok_Assertions_noteUse rfl rfl
  · rw [if_neg h4] at hf
    refine Rt.path ok_Assertions_noteUse 23 [0] rfl ⟨(ix_1600 h1), (ix_1600 h1), (ix_40 h2), ⟨h3, h4⟩, trivial⟩ ?_
    have h5 : 0 ≤ a1 ∧ a1 < 40 := by
      by_cases q : 0 ≤ a1 ∧ a1 < 40
      · exact q
      · rw [if_neg q] at hf; cases hf
    rw [if_pos h5] at hf
    have h6 : ir (rA g 24 a1) := by
      by_cases q : ir (rA g 24 a1)
      · exact q
      · rw [if_neg q] at hf; cases hf
    rw [if_pos h6] at hf
    by_cases h7 : (rA g 24 a1) = 0
    · rw [if_pos h7] at hf
      refine Rt.path ok_Assertions_noteUse 5 [1] rfl ⟨(ix_40 h5), ⟨h6, h7⟩, trivial⟩ ?_
      cases hf
      refine Rt.path ok_Assertions_noteUse 2 [] rfl ⟨⟨(ix_40 h2), (show (0 : Int) = 0 ∨ (0 : Int) = 1 by decide)⟩, trivial⟩ ?_
      exact Rt.retV ok_Assertions_noteUse rfl rfl
    · rw [if_neg h7] at hf
      refine Rt.path ok_Assertions_noteUse 5 [0] rfl ⟨(ix_40 h5), ⟨h6, h7⟩, trivial⟩ ?_
      cases hf
      refine Rt.path ok_Assertions_noteUse 3 [] rfl ⟨⟨(ix_40 h2), (show (1 : Int) = 0 ∨ (1 : Int) = 1 by decide)⟩, trivial⟩ ?_
      exact Rt.retV ok_Assertions_noteUse rfl rfl
def f_Expressions_isFull_35  (g : G2) : Option (Int × G2) :=
  if ir (rI g 34 4) then
  if (rI g 34 4) < 16 then
    some (0, g)
  else
    some (1, g)
  else none
set_option maxHeartbeats 4000000 in
set_option maxRecDepth 100000 in
theorem c_Expressions_isFull_35 (d : Nat)  (g : G2) (r : Int) (g' : G2) (hf : f_Expressions_isFull_35 g = some (r, g')) : C2 d m_Expressions_isFull [vR 35] g (some (vI r)) g' := by
  unfold f_Expressions_isFull_35 at hf
  refine C2.of rfl rfl rfl (Nat.le_of_ble_eq_true rfl) ?_
  have h1 : ir (rI g 34 4) := by
    by_cases q : ir (rI g 34 4)
    · exact q
    · rw [if_neg q] at hf; cases hf
  rw [if_pos h1] at hf
  by_cases h2 : (rI g 34 4) < 16
  · rw [if_pos h2] at hf
    refine Rt.path ok_Expressions_isFull 5 [1] rfl ⟨⟨⟨h1, (show ir 16 by decide)⟩, h2⟩, trivial⟩ ?_
    cases hf
    refine Rt.path ok_Expressions_isFull 1 [] rfl trivial ?_
    exact Rt.retZ ok_Expressions_isFull (show (0 : Int) = 0 ∨ (0 : Int) = 1 by decide) rfl rfl
  · rw [if_neg h2] at hf
    refine Rt.path ok_Expressions_isFull 5 [0] rfl ⟨⟨⟨h1, (show ir 16 by decide)⟩, (Int.not_lt.mp h2)⟩, trivial⟩ ?_
    cases hf
    refine Rt.path ok_Expressions_isFull 2 [] rfl trivial ?_
    exact Rt.retZ ok_Expressions_isFull (show (1 : Int) = 0 ∨ (1 : Int) = 1 by decide) rfl rfl
def f_Expressions_addCopy_35_39 (a2 : Int) (g : G2) : Option (G2) :=
  if 0 ≤ a2 ∧ a2 < 1 then
  if 0 ≤ (a2 * 24) ∧ 0 ≤ ((rI g 34 4) * 24) ∧ 0 ≤ (rA g 40 a2) ∧ (a2 * 24) + (rA g 40 a2) ≤ 24 ∧ ((rI g 34 4) * 24) + (rA g 40 a2) ≤ 384 then
  if 0 ≤ (rI g 34 4) ∧ (rI g 34 4) < 16 then
  some (gI (gB (gA (gC g 39 35 (a2 * 24) ((rI g 34 4) * 24) (rA g 40 a2)) 36 (rI g 34 4) (rA g 40 a2)) 37 (rI g 34 4) (rB g 41 a2)) 34 4 ((rI g 34 4) + 1))
  else none
  else none
  else none
set_option maxHeartbeats 4000000 in
set_option maxRecDepth 100000 in
theorem c_Expressions_addCopy_35_39 (d : Nat) (a2 : Int) (g : G2) (g' : G2) (hf : f_Expressions_addCopy_35_39 a2 g = some g') : C2 d m_Expressions_addCopy [vR 35, vR 39, vI a2] g none g' := by
  unfold f_Expressions_addCopy_35_39 at hf
  refine C2.of rfl rfl rfl (Nat.le_of_ble_eq_true rfl) ?_
  have h1 : 0 ≤ a2 ∧ a2 < 1 := by
    by_cases q : 0 ≤ a2 ∧ a2 < 1
    · exact q
    · rw [if_neg q] at hf; cases hf
  rw [if_pos h1] at hf
  have h2 : 0 ≤ (a2 * 24) ∧ 0 ≤ ((rI g 34 4) * 24) ∧ 0 ≤ (rA g 40 a2) ∧ (a2 * 24) + (rA g 40 a2) ≤ 24 ∧ ((rI g 34 4) * 24) + (rA g 40 a2) ≤ 384 := by
    by_cases q : 0 ≤ (a2 * 24) ∧ 0 ≤ ((rI g 34 4) * 24) ∧ 0 ≤ (rA g 40 a2) ∧ (a2 * 24) + (rA g 40 a2) ≤ 24 ∧ ((rI g 34 4) * 24) + (rA g 40 a2) ≤ 384
    · exact q
    · rw [if_neg q] at hf; cases hf
  rw [if_pos h2] at hf
  have h3 : 0 ≤ (rI g 34 4) ∧ (rI g 34 4) < 16 := by
    by_cases q : 0 ≤ (rI g 34 4) ∧ (rI g 34 4) < 16
    · exact q
    · rw [if_neg q] at hf; cases hf
  rw [if_pos h3] at hf
  cases hf
  refine Rt.path ok_Expressions_addCopy 40 [] rfl ⟨(ix_1 h1), ⟨(cp_24_384 h2), Nat.le_of_ble_eq_true rfl⟩, (ix_1 h1), (ix_16 h3), (ix_1 h1), (ix_16 h3), trivial⟩ ?_
  exact Rt.retV ok_Expressions_addCopy rfl rfl
def f_Assertions_noteStep_17 (a1 : Int) (g : G2) : Option (G2) :=
  if 0 ≤ (rI g 16 8) ∧ (rI g 16 8) < 40 then
  if ir (rA g 21 (rI g 16 8)) then
  if ir a1 then
  some (gA (gA g 20 (rI g 16 8) ((rA g 20 (rI g 16 8)) + 1)) 21 (rI g 16 8) (am_max (rA g 21 (rI g 16 8)) a1))
  else none
  else none
  else none
set_option maxHeartbeats 4000000 in
set_option maxRecDepth 100000 in
theorem c_Assertions_noteStep_17 (d : Nat) (a1 : Int) (g : G2) (g' : G2) (hf : f_Assertions_noteStep_17 a1 g = some g') : C2 d m_Assertions_noteStep [vR 17, vI a1] g none g' := by
  unfold f_Assertions_noteStep_17 at hf
  refine C2.of rfl rfl rfl (Nat.le_of_ble_eq_true rfl) ?_
  have h1 : 0 ≤ (rI g 16 8) ∧ (rI g 16 8) < 40 := by
    by_cases q : 0 ≤ (rI g 16 8) ∧ (rI g 16 8) < 40
    · exact q
    · rw [if_neg q] at hf; cases hf
  rw [if_pos h1] at hf
  have h2 : ir (rA g 21 (rI g 16 8)) := by
    by_cases q : ir (rA g 21 (rI g 16 8))
    · exact q
    · rw [if_neg q] at hf; cases hf
  rw [if_pos h2] at hf
  have h3 : ir a1 := by
    by_cases q : ir a1
    · exact q
    · rw [if_neg q] at hf; cases hf
  rw [if_pos h3] at hf
  cases hf
  refine Rt.path ok_Assertions_noteStep 21 [] rfl ⟨(ix_40 h1), (ix_40 h1), (ix_40 h1), ⟨h2, h3, Nat.le_of_ble_eq_true rfl⟩, (ix_40 h1), trivial⟩ ?_
  exact Rt.retV ok_Assertions_noteStep rfl rfl
def f_Proof_put_34_39 (a2 : Int) (g : G2) : Option (Int × G2) :=
  bd (f_Expressions_isFull_35 g) fun r1 g1 =>
  if ir r1 then
  if r1 = 0 then
    (f_Expressions_addCopy_35_39 a2 g1).bind fun g4 =>
    (f_Assertions_noteStep_17 (rI g4 34 4) g4).bind fun g5 =>
    some (0, g5)
  else
    some ((-7), g1)
  else none
set_option maxHeartbeats 4000000 in
set_option maxRecDepth 100000 in
theorem c_Proof_put_34_39 (d : Nat) (a2 : Int) (g : G2) (r : Int) (g' : G2) (hf : f_Proof_put_34_39 a2 g = some (r, g')) : C2 (d + 1) m_Proof_put [vR 34, vR 39, vI a2] g (some (vI r)) g' := by
  unfold f_Proof_put_34_39 at hf
  refine C2.of rfl rfl rfl (Nat.le_of_ble_eq_true rfl) ?_
  obtain ⟨r1, g1, e1, hf⟩ := bd_inv hf
  refine Rt.path ok_Proof_put 2 [] rfl trivial ?_
  refine Rt.callV ok_Proof_put rfl ml_Proof_96 [] cf_Expressions_isFull rfl rfl (c_Expressions_isFull_35 d _ _ _ e1) (Nat.le_of_ble_eq_true rfl) ?_
  have h2 : ir r1 := by
    by_cases q : ir r1
    · exact q
    · rw [if_neg q] at hf; cases hf
  rw [if_pos h2] at hf
  by_cases h3 : r1 = 0
  · rw [if_pos h3] at hf
    refine Rt.path ok_Proof_put 1 [1] rfl ⟨⟨h2, h3⟩, trivial⟩ ?_
    obtain ⟨g4, e4, hf⟩ := Option.bind_eq_some_iff.mp hf
    refine Rt.path ok_Proof_put 4 [] rfl trivial ?_
    refine Rt.callV ok_Proof_put rfl ml_Proof_100 [vR 39, vI _] cf_Expressions_addCopy rfl rfl (c_Expressions_addCopy_35_39 d _ _ _ e4) (Nat.le_of_ble_eq_true rfl) ?_
    obtain ⟨g5, e5, hf⟩ := Option.bind_eq_some_iff.mp hf
    refine Rt.path ok_Proof_put 5 [] rfl trivial ?_
    refine Rt.callV ok_Proof_put rfl ml_Proof_104 [vI _] cf_Assertions_noteStep rfl rfl (c_Assertions_noteStep_17 d _ _ _ e5) (Nat.le_of_ble_eq_true rfl) ?_
    cases hf
    refine Rt.path ok_Proof_put 1 [] rfl trivial ?_
    exact Rt.retI ok_Proof_put rfl rfl
  · rw [if_neg h3] at hf
    refine Rt.path ok_Proof_put 1 [0] rfl ⟨⟨h2, h3⟩, trivial⟩ ?_
    cases hf
    refine Rt.path ok_Proof_put 1 [] rfl trivial ?_
    exact Rt.retI ok_Proof_put rfl rfl
def f_Expressions_addCopy_35_11 (a2 : Int) (g : G2) : Option (G2) :=
  if 0 ≤ a2 ∧ a2 < 40 then
  if 0 ≤ (a2 * 24) ∧ 0 ≤ ((rI g 34 4) * 24) ∧ 0 ≤ (rA g 12 a2) ∧ (a2 * 24) + (rA g 12 a2) ≤ 960 ∧ ((rI g 34 4) * 24) + (rA g 12 a2) ≤ 384 then
  if 0 ≤ (rI g 34 4) ∧ (rI g 34 4) < 16 then
  some (gI (gB (gA (gC g 11 35 (a2 * 24) ((rI g 34 4) * 24) (rA g 12 a2)) 36 (rI g 34 4) (rA g 12 a2)) 37 (rI g 34 4) (rB g 13 a2)) 34 4 ((rI g 34 4) + 1))
  else none
  else none
  else none
set_option maxHeartbeats 4000000 in
set_option maxRecDepth 100000 in
theorem c_Expressions_addCopy_35_11 (d : Nat) (a2 : Int) (g : G2) (g' : G2) (hf : f_Expressions_addCopy_35_11 a2 g = some g') : C2 d m_Expressions_addCopy [vR 35, vR 11, vI a2] g none g' := by
  unfold f_Expressions_addCopy_35_11 at hf
  refine C2.of rfl rfl rfl (Nat.le_of_ble_eq_true rfl) ?_
  have h1 : 0 ≤ a2 ∧ a2 < 40 := by
    by_cases q : 0 ≤ a2 ∧ a2 < 40
    · exact q
    · rw [if_neg q] at hf; cases hf
  rw [if_pos h1] at hf
  have h2 : 0 ≤ (a2 * 24) ∧ 0 ≤ ((rI g 34 4) * 24) ∧ 0 ≤ (rA g 12 a2) ∧ (a2 * 24) + (rA g 12 a2) ≤ 960 ∧ ((rI g 34 4) * 24) + (rA g 12 a2) ≤ 384 := by
    by_cases q : 0 ≤ (a2 * 24) ∧ 0 ≤ ((rI g 34 4) * 24) ∧ 0 ≤ (rA g 12 a2) ∧ (a2 * 24) + (rA g 12 a2) ≤ 960 ∧ ((rI g 34 4) * 24) + (rA g 12 a2) ≤ 384
    · exact q
    · rw [if_neg q] at hf; cases hf
  rw [if_pos h2] at hf
  have h3 : 0 ≤ (rI g 34 4) ∧ (rI g 34 4) < 16 := by
    by_cases q : 0 ≤ (rI g 34 4) ∧ (rI g 34 4) < 16
    · exact q
    · rw [if_neg q] at hf; cases hf
  rw [if_pos h3] at hf
  cases hf
  refine Rt.path ok_Expressions_addCopy 40 [] rfl ⟨(ix_40 h1), ⟨(cp_960_384 h2), Nat.le_of_ble_eq_true rfl⟩, (ix_40 h1), (ix_16 h3), (ix_40 h1), (ix_16 h3), trivial⟩ ?_
  exact Rt.retV ok_Expressions_addCopy rfl rfl
def f_Proof_put_34_11 (a2 : Int) (g : G2) : Option (Int × G2) :=
  bd (f_Expressions_isFull_35 g) fun r1 g1 =>
  if ir r1 then
  if r1 = 0 then
    (f_Expressions_addCopy_35_11 a2 g1).bind fun g4 =>
    (f_Assertions_noteStep_17 (rI g4 34 4) g4).bind fun g5 =>
    some (0, g5)
  else
    some ((-7), g1)
  else none
set_option maxHeartbeats 4000000 in
set_option maxRecDepth 100000 in
theorem c_Proof_put_34_11 (d : Nat) (a2 : Int) (g : G2) (r : Int) (g' : G2) (hf : f_Proof_put_34_11 a2 g = some (r, g')) : C2 (d + 1) m_Proof_put [vR 34, vR 11, vI a2] g (some (vI r)) g' := by
  unfold f_Proof_put_34_11 at hf
  refine C2.of rfl rfl rfl (Nat.le_of_ble_eq_true rfl) ?_
  obtain ⟨r1, g1, e1, hf⟩ := bd_inv hf
  refine Rt.path ok_Proof_put 2 [] rfl trivial ?_
  refine Rt.callV ok_Proof_put rfl ml_Proof_96 [] cf_Expressions_isFull rfl rfl (c_Expressions_isFull_35 d _ _ _ e1) (Nat.le_of_ble_eq_true rfl) ?_
  have h2 : ir r1 := by
    by_cases q : ir r1
    · exact q
    · rw [if_neg q] at hf; cases hf
  rw [if_pos h2] at hf
  by_cases h3 : r1 = 0
  · rw [if_pos h3] at hf
    refine Rt.path ok_Proof_put 1 [1] rfl ⟨⟨h2, h3⟩, trivial⟩ ?_
    obtain ⟨g4, e4, hf⟩ := Option.bind_eq_some_iff.mp hf
    refine Rt.path ok_Proof_put 4 [] rfl trivial ?_
    refine Rt.callV ok_Proof_put rfl ml_Proof_100 [vR 11, vI _] cf_Expressions_addCopy rfl rfl (c_Expressions_addCopy_35_11 d _ _ _ e4) (Nat.le_of_ble_eq_true rfl) ?_
    obtain ⟨g5, e5, hf⟩ := Option.bind_eq_some_iff.mp hf
    refine Rt.path ok_Proof_put 5 [] rfl trivial ?_
    refine Rt.callV ok_Proof_put rfl ml_Proof_104 [vI _] cf_Assertions_noteStep rfl rfl (c_Assertions_noteStep_17 d _ _ _ e5) (Nat.le_of_ble_eq_true rfl) ?_
    cases hf
    refine Rt.path ok_Proof_put 1 [] rfl trivial ?_
    exact Rt.retI ok_Proof_put rfl rfl
  · rw [if_neg h3] at hf
    refine Rt.path ok_Proof_put 1 [0] rfl ⟨⟨h2, h3⟩, trivial⟩ ?_
    cases hf
    refine Rt.path ok_Proof_put 1 [] rfl trivial ?_
    exact Rt.retI ok_Proof_put rfl rfl
