def f_J_bitCount (a0 : Int64) (g : G2) : Option (Int × G2) :=
  some ((am_and (am_l2i ((((((((a0 - ((am_ushr a0 1) &&& (Int64.ofNat 6148914691236517205))) &&& (Int64.ofNat 3689348814741910323)) + ((am_ushr (a0 - ((am_ushr a0 1) &&& (Int64.ofNat 6148914691236517205))) 2) &&& (Int64.ofNat 3689348814741910323))) + (am_ushr (((a0 - ((am_ushr a0 1) &&& (Int64.ofNat 6148914691236517205))) &&& (Int64.ofNat 3689348814741910323)) + ((am_ushr (a0 - ((am_ushr a0 1) &&& (Int64.ofNat 6148914691236517205))) 2) &&& (Int64.ofNat 3689348814741910323))) 4)) &&& (Int64.ofNat 1085102592571150095)) + (am_ushr (((((a0 - ((am_ushr a0 1) &&& (Int64.ofNat 6148914691236517205))) &&& (Int64.ofNat 3689348814741910323)) + ((am_ushr (a0 - ((am_ushr a0 1) &&& (Int64.ofNat 6148914691236517205))) 2) &&& (Int64.ofNat 3689348814741910323))) + (am_ushr (((a0 - ((am_ushr a0 1) &&& (Int64.ofNat 6148914691236517205))) &&& (Int64.ofNat 3689348814741910323)) + ((am_ushr (a0 - ((am_ushr a0 1) &&& (Int64.ofNat 6148914691236517205))) 2) &&& (Int64.ofNat 3689348814741910323))) 4)) &&& (Int64.ofNat 1085102592571150095)) 8)) + (am_ushr ((((((a0 - ((am_ushr a0 1) &&& (Int64.ofNat 6148914691236517205))) &&& (Int64.ofNat 3689348814741910323)) + ((am_ushr (a0 - ((am_ushr a0 1) &&& (Int64.ofNat 6148914691236517205))) 2) &&& (Int64.ofNat 3689348814741910323))) + (am_ushr (((a0 - ((am_ushr a0 1) &&& (Int64.ofNat 6148914691236517205))) &&& (Int64.ofNat 3689348814741910323)) + ((am_ushr (a0 - ((am_ushr a0 1) &&& (Int64.ofNat 6148914691236517205))) 2) &&& (Int64.ofNat 3689348814741910323))) 4)) &&& (Int64.ofNat 1085102592571150095)) + (am_ushr (((((a0 - ((am_ushr a0 1) &&& (Int64.ofNat 6148914691236517205))) &&& (Int64.ofNat 3689348814741910323)) + ((am_ushr (a0 - ((am_ushr a0 1) &&& (Int64.ofNat 6148914691236517205))) 2) &&& (Int64.ofNat 3689348814741910323))) + (am_ushr (((a0 - ((am_ushr a0 1) &&& (Int64.ofNat 6148914691236517205))) &&& (Int64.ofNat 3689348814741910323)) + ((am_ushr (a0 - ((am_ushr a0 1) &&& (Int64.ofNat 6148914691236517205))) 2) &&& (Int64.ofNat 3689348814741910323))) 4)) &&& (Int64.ofNat 1085102592571150095)) 8)) 16)) + (am_ushr (((((((a0 - ((am_ushr a0 1) &&& (Int64.ofNat 6148914691236517205))) &&& (Int64.ofNat 3689348814741910323)) + ((am_ushr (a0 - ((am_ushr a0 1) &&& (Int64.ofNat 6148914691236517205))) 2) &&& (Int64.ofNat 3689348814741910323))) + (am_ushr (((a0 - ((am_ushr a0 1) &&& (Int64.ofNat 6148914691236517205))) &&& (Int64.ofNat 3689348814741910323)) + ((am_ushr (a0 - ((am_ushr a0 1) &&& (Int64.ofNat 6148914691236517205))) 2) &&& (Int64.ofNat 3689348814741910323))) 4)) &&& (Int64.ofNat 1085102592571150095)) + (am_ushr (((((a0 - ((am_ushr a0 1) &&& (Int64.ofNat 6148914691236517205))) &&& (Int64.ofNat 3689348814741910323)) + ((am_ushr (a0 - ((am_ushr a0 1) &&& (Int64.ofNat 6148914691236517205))) 2) &&& (Int64.ofNat 3689348814741910323))) + (am_ushr (((a0 - ((am_ushr a0 1) &&& (Int64.ofNat 6148914691236517205))) &&& (Int64.ofNat 3689348814741910323)) + ((am_ushr (a0 - ((am_ushr a0 1) &&& (Int64.ofNat 6148914691236517205))) 2) &&& (Int64.ofNat 3689348814741910323))) 4)) &&& (Int64.ofNat 1085102592571150095)) 8)) + (am_ushr ((((((a0 - ((am_ushr a0 1) &&& (Int64.ofNat 6148914691236517205))) &&& (Int64.ofNat 3689348814741910323)) + ((am_ushr (a0 - ((am_ushr a0 1) &&& (Int64.ofNat 6148914691236517205))) 2) &&& (Int64.ofNat 3689348814741910323))) + (am_ushr (((a0 - ((am_ushr a0 1) &&& (Int64.ofNat 6148914691236517205))) &&& (Int64.ofNat 3689348814741910323)) + ((am_ushr (a0 - ((am_ushr a0 1) &&& (Int64.ofNat 6148914691236517205))) 2) &&& (Int64.ofNat 3689348814741910323))) 4)) &&& (Int64.ofNat 1085102592571150095)) + (am_ushr (((((a0 - ((am_ushr a0 1) &&& (Int64.ofNat 6148914691236517205))) &&& (Int64.ofNat 3689348814741910323)) + ((am_ushr (a0 - ((am_ushr a0 1) &&& (Int64.ofNat 6148914691236517205))) 2) &&& (Int64.ofNat 3689348814741910323))) + (am_ushr (((a0 - ((am_ushr a0 1) &&& (Int64.ofNat 6148914691236517205))) &&& (Int64.ofNat 3689348814741910323)) + ((am_ushr (a0 - ((am_ushr a0 1) &&& (Int64.ofNat 6148914691236517205))) 2) &&& (Int64.ofNat 3689348814741910323))) 4)) &&& (Int64.ofNat 1085102592571150095)) 8)) 16)) 32))) 127), g)
set_option maxHeartbeats 4000000 in
set_option maxRecDepth 100000 in
theorem c_J_bitCount (d : Nat) (a0 : Int64) (g : G2) (r : Int) (g' : G2) (hf : f_J_bitCount a0 g = some (r, g')) : C2 d m_J_bitCount [vL a0] g (some (vI r)) g' := by
  unfold f_J_bitCount at hf
  refine C2.of rfl rfl rfl (Nat.le_of_ble_eq_true rfl) ?_
  cases hf
  refine Rt.path ok_J_bitCount 48 [] rfl trivial ?_
  exact Rt.retI ok_J_bitCount rfl rfl
def f_Expressions_symbolAt_35 (a1 : Int) (a2 : Int) (g : G2) : Option (Int × G2) :=
  if 0 ≤ ((a1 * 24) + a2) ∧ ((a1 * 24) + a2) < 384 then
  some ((rA g 35 ((a1 * 24) + a2)), g)
  else none
set_option maxHeartbeats 4000000 in
set_option maxRecDepth 100000 in
theorem c_Expressions_symbolAt_35 (d : Nat) (a1 : Int) (a2 : Int) (g : G2) (r : Int) (g' : G2) (hf : f_Expressions_symbolAt_35 a1 a2 g = some (r, g')) : C2 d m_Expressions_symbolAt [vR 35, vI a1, vI a2] g (some (vI r)) g' := by
  unfold f_Expressions_symbolAt_35 at hf
  refine C2.of rfl rfl rfl (Nat.le_of_ble_eq_true rfl) ?_
  have h1 : 0 ≤ ((a1 * 24) + a2) ∧ ((a1 * 24) + a2) < 384 := by
    by_cases q : 0 ≤ ((a1 * 24) + a2) ∧ ((a1 * 24) + a2) < 384
    · exact q
    · rw [if_neg q] at hf; cases hf
  rw [if_pos h1] at hf
  cases hf
  refine Rt.path ok_Expressions_symbolAt 8 [] rfl ⟨(ix_384 h1), trivial⟩ ?_
  exact Rt.retI ok_Expressions_symbolAt rfl rfl
def f_Expressions_symbolAt_11 (a1 : Int) (a2 : Int) (g : G2) : Option (Int × G2) :=
  if 0 ≤ ((a1 * 24) + a2) ∧ ((a1 * 24) + a2) < 960 then
  some ((rA g 11 ((a1 * 24) + a2)), g)
  else none
set_option maxHeartbeats 4000000 in
set_option maxRecDepth 100000 in
theorem c_Expressions_symbolAt_11 (d : Nat) (a1 : Int) (a2 : Int) (g : G2) (r : Int) (g' : G2) (hf : f_Expressions_symbolAt_11 a1 a2 g = some (r, g')) : C2 d m_Expressions_symbolAt [vR 11, vI a1, vI a2] g (some (vI r)) g' := by
  unfold f_Expressions_symbolAt_11 at hf
  refine C2.of rfl rfl rfl (Nat.le_of_ble_eq_true rfl) ?_
  have h1 : 0 ≤ ((a1 * 24) + a2) ∧ ((a1 * 24) + a2) < 960 := by
    by_cases q : 0 ≤ ((a1 * 24) + a2) ∧ ((a1 * 24) + a2) < 960
    · exact q
    · rw [if_neg q] at hf; cases hf
  rw [if_pos h1] at hf
  cases hf
  refine Rt.path ok_Expressions_symbolAt 8 [] rfl ⟨(ix_960 h1), trivial⟩ ?_
  exact Rt.retI ok_Expressions_symbolAt rfl rfl
def f_Expressions_startRow_39  (g : G2) : Option (G2) :=
  if 0 ≤ (rI g 38 4) ∧ (rI g 38 4) < 1 then
  some (gB (gA g 40 (rI g 38 4) 0) 41 (rI g 38 4) (Int64.ofNat 0))
  else none
set_option maxHeartbeats 4000000 in
set_option maxRecDepth 100000 in
theorem c_Expressions_startRow_39 (d : Nat)  (g : G2) (g' : G2) (hf : f_Expressions_startRow_39 g = some g') : C2 d m_Expressions_startRow [vR 39] g none g' := by
  unfold f_Expressions_startRow_39 at hf
  refine C2.of rfl rfl rfl (Nat.le_of_ble_eq_true rfl) ?_
  have h1 : 0 ≤ (rI g 38 4) ∧ (rI g 38 4) < 1 := by
    by_cases q : 0 ≤ (rI g 38 4) ∧ (rI g 38 4) < 1
    · exact q
    · rw [if_neg q] at hf; cases hf
  rw [if_pos h1] at hf
  cases hf
  refine Rt.path ok_Expressions_startRow 12 [] rfl ⟨(ix_1 h1), (ix_1 h1), trivial⟩ ?_
  exact Rt.retV ok_Expressions_startRow rfl rfl
def f_Expressions_rowHasRoom_39 (a1 : Int) (g : G2) : Option (Int × G2) :=
  if 0 ≤ (rI g 38 4) ∧ (rI g 38 4) < 1 then
  if ir ((rA g 40 (rI g 38 4)) + a1) then
  if 24 < ((rA g 40 (rI g 38 4)) + a1) then
    some (0, g)
  else
    some (1, g)
  else none
  else none
set_option maxHeartbeats 4000000 in
set_option maxRecDepth 100000 in
theorem c_Expressions_rowHasRoom_39 (d : Nat) (a1 : Int) (g : G2) (r : Int) (g' : G2) (hf : f_Expressions_rowHasRoom_39 a1 g = some (r, g')) : C2 d m_Expressions_rowHasRoom [vR 39, vI a1] g (some (vI r)) g' := by
  unfold f_Expressions_rowHasRoom_39 at hf
  refine C2.of rfl rfl rfl (Nat.le_of_ble_eq_true rfl) ?_
  have h1 : 0 ≤ (rI g 38 4) ∧ (rI g 38 4) < 1 := by
    by_cases q : 0 ≤ (rI g 38 4) ∧ (rI g 38 4) < 1
    · exact q
    · rw [if_neg q] at hf; cases hf
  rw [if_pos h1] at hf
  have h2 : ir ((rA g 40 (rI g 38 4)) + a1) := by
    by_cases q : ir ((rA g 40 (rI g 38 4)) + a1)
    · exact q
    · rw [if_neg q] at hf; cases hf
  rw [if_pos h2] at hf
  by_cases h3 : 24 < ((rA g 40 (rI g 38 4)) + a1)
  · rw [if_pos h3] at hf
    refine Rt.path ok_Expressions_rowHasRoom 9 [1] rfl ⟨(ix_1 h1), ⟨⟨h2, (show ir 24 by decide)⟩, h3⟩, trivial⟩ ?_
    cases hf
    refine Rt.path ok_Expressions_rowHasRoom 1 [] rfl trivial ?_
    exact Rt.retZ ok_Expressions_rowHasRoom (show (0 : Int) = 0 ∨ (0 : Int) = 1 by decide) rfl rfl
  · rw [if_neg h3] at hf
    refine Rt.path ok_Expressions_rowHasRoom 9 [0] rfl ⟨(ix_1 h1), ⟨⟨h2, (show ir 24 by decide)⟩, (Int.not_lt.mp h3)⟩, trivial⟩ ?_
    cases hf
    refine Rt.path ok_Expressions_rowHasRoom 2 [] rfl trivial ?_
    exact Rt.retZ ok_Expressions_rowHasRoom (show (1 : Int) = 0 ∨ (1 : Int) = 1 by decide) rfl rfl
def b_Expressions_appendBody_39_35_0 (L : Nat → Int → Int → G2 → Option (G2)) (i2 : Int) (i3 : Int) (g : G2) : Option (G2) :=
  if 0 ≤ i2 ∧ i2 < 16 then
  if ir i3 then
  if ir (rA g 36 i2) then
  if i3 < (rA g 36 i2) then
    if 0 ≤ (rI g 38 4) ∧ (rI g 38 4) < 1 then
    if 0 ≤ ((i2 * 24) + i3) ∧ ((i2 * 24) + i3) < 384 then
    if 0 ≤ (((rI g 38 4) * 24) + (rA g 40 (rI g 38 4))) ∧ (((rI g 38 4) * 24) + (rA g 40 (rI g 38 4))) < 24 then
    L 0 i2 (i3 + 1) (gA (gA g 39 (((rI g 38 4) * 24) + (rA g 40 (rI g 38 4))) (rA g 35 ((i2 * 24) + i3))) 40 (rI g 38 4) ((rA g 40 (rI g 38 4)) + 1))
    else none
    else none
    else none
  else
    if 0 ≤ (rI g 38 4) ∧ (rI g 38 4) < 1 then
    some (gB g 41 (rI g 38 4) ((rB g 41 (rI g 38 4)) ||| (rB g 37 i2)))
    else none
  else none
  else none
  else none
def l_Expressions_appendBody_39_35 : Nat → Nat → Int → Int → G2 → Option (G2)
  | 0 => fun _ _ _ _ => none
  | n + 1 => fun t i2 i3 g => match t with
    | _ => b_Expressions_appendBody_39_35_0 (l_Expressions_appendBody_39_35 n) i2 i3 g
set_option maxHeartbeats 4000000 in
set_option maxRecDepth 100000 in
theorem rl_Expressions_appendBody_39_35 (d : Nat) : ∀ (n : Nat) (i2 : Int) (i3 : Int) (g : G2) (g' : G2), (l_Expressions_appendBody_39_35 n 0 i2 i3 g = some g' → Rt d m_Expressions_appendBody 2 [some (vR 39), some (vR 35), some (vI i2), some (vI i3)] [] g none g') := by
  intro n
  induction n with
  | zero => intro i2 i3 g g'; exact fun hf => by cases hf
  | succ n ih =>
    intro i2 i3 g g'
    intro hf
    replace hf : b_Expressions_appendBody_39_35_0 (l_Expressions_appendBody_39_35 n) i2 i3 g = some g' := hf
    unfold b_Expressions_appendBody_39_35_0 at hf
    have h1 : 0 ≤ i2 ∧ i2 < 16 := by
      by_cases q : 0 ≤ i2 ∧ i2 < 16
      · exact q
      · rw [if_neg q] at hf; cases hf
    rw [if_pos h1] at hf
    have h2 : ir i3 := by
      by_cases q : ir i3
      · exact q
      · rw [if_neg q] at hf; cases hf
    rw [if_pos h2] at hf
    have h3 : ir (rA g 36 i2) := by
      by_cases q : ir (rA g 36 i2)
      · exact q
      · rw [if_neg q] at hf; cases hf
    rw [if_pos h3] at hf
    by_cases h4 : i3 < (rA g 36 i2)
    · rw [if_pos h4] at hf
      refine Rt.path ok_Expressions_appendBody 6 [0] rfl ⟨(ix_16 h1), ⟨⟨h2, h3⟩, h4⟩, trivial⟩ ?_
      have h5 : 0 ≤ (rI g 38 4) ∧ (rI g 38 4) < 1 := by
        by_cases q : 0 ≤ (rI g 38 4) ∧ (rI g 38 4) < 1
        · exact q
        · rw [if_neg q] at hf; cases hf
      rw [if_pos h5] at hf
      have h6 : 0 ≤ ((i2 * 24) + i3) ∧ ((i2 * 24) + i3) < 384 := by
        by_cases q : 0 ≤ ((i2 * 24) + i3) ∧ ((i2 * 24) + i3) < 384
        · exact q
        · rw [if_neg q] at hf; cases hf
      rw [if_pos h6] at hf
      have h7 : 0 ≤ (((rI g 38 4) * 24) + (rA g 40 (rI g 38 4))) ∧ (((rI g 38 4) * 24) + (rA g 40 (rI g 38 4))) < 24 := by
        by_cases q : 0 ≤ (((rI g 38 4) * 24) + (rA g 40 (rI g 38 4))) ∧ (((rI g 38 4) * 24) + (rA g 40 (rI g 38 4))) < 24
        · exact q
        · rw [if_neg q] at hf; cases hf
      rw [if_pos h7] at hf
      refine Rt.path ok_Expressions_appendBody 32 [] rfl ⟨(ix_1 h5), (ix_384 h6), (ix_24 h7), (ix_1 h5), (ix_1 h5), trivial⟩ ?_
      exact Rt.weak ((ih _ _ _ _) hf) ⟨rfl, rfl, rfl, rfl, trivial⟩
    · rw [if_neg h4] at hf
      refine Rt.path ok_Expressions_appendBody 6 [1] rfl ⟨(ix_16 h1), ⟨⟨h2, h3⟩, (Int.not_lt.mp h4)⟩, trivial⟩ ?_
      have h8 : 0 ≤ (rI g 38 4) ∧ (rI g 38 4) < 1 := by
        by_cases q : 0 ≤ (rI g 38 4) ∧ (rI g 38 4) < 1
        · exact q
        · rw [if_neg q] at hf; cases hf
      rw [if_pos h8] at hf
      cases hf
      refine Rt.path ok_Expressions_appendBody 12 [] rfl ⟨(ix_1 h8), (ix_16 h1), (ix_1 h8), trivial⟩ ?_
      exact Rt.retV ok_Expressions_appendBody rfl rfl
def f_Expressions_appendBody_39_35 (a2 : Int) (g : G2) : Option (G2) :=
  l_Expressions_appendBody_39_35 20000 0 a2 1 g
set_option maxHeartbeats 4000000 in
set_option maxRecDepth 100000 in
theorem c_Expressions_appendBody_39_35 (d : Nat) (a2 : Int) (g : G2) (g' : G2) (hf : f_Expressions_appendBody_39_35 a2 g = some g') : C2 d m_Expressions_appendBody [vR 39, vR 35, vI a2] g none g' := by
  unfold f_Expressions_appendBody_39_35 at hf
  refine C2.of rfl rfl rfl (Nat.le_of_ble_eq_true rfl) ?_
  refine Rt.path ok_Expressions_appendBody 2 [] rfl trivial ?_
  exact Rt.weak ((rl_Expressions_appendBody_39_35 d _ _ _ _ _) hf) ⟨rfl, rfl, rfl, rfl, trivial⟩
def f_Expressions_append_39 (a1 : Int) (a2 : Int) (g : G2) : Option (G2) :=
  if 0 ≤ (rI g 38 4) ∧ (rI g 38 4) < 1 then
  if 0 ≤ (((rI g 38 4) * 24) + (rA g 40 (rI g 38 4))) ∧ (((rI g 38 4) * 24) + (rA g 40 (rI g 38 4))) < 24 then
  if ir a2 then
  if a2 = 0 then
    some (gA (gA g 39 (((rI g 38 4) * 24) + (rA g 40 (rI g 38 4))) a1) 40 (rI g 38 4) ((rA g 40 (rI g 38 4)) + 1))
  else
    some (gB (gA (gA g 39 (((rI g 38 4) * 24) + (rA g 40 (rI g 38 4))) a1) 40 (rI g 38 4) ((rA g 40 (rI g 38 4)) + 1)) 41 (rI g 38 4) ((rB g 41 (rI g 38 4)) ||| (am_shl (Int64.ofNat 1) a1)))
  else none
  else none
  else none
set_option maxHeartbeats 4000000 in
set_option maxRecDepth 100000 in
theorem c_Expressions_append_39 (d : Nat) (a1 : Int) (a2 : Int) (g : G2) (g' : G2) (hf : f_Expressions_append_39 a1 a2 g = some g') : C2 d m_Expressions_append [vR 39, vI a1, vI a2] g none g' := by
  unfold f_Expressions_append_39 at hf
  refine C2.of rfl rfl rfl (Nat.le_of_ble_eq_true rfl) ?_
  have h1 : 0 ≤ (rI g 38 4) ∧ (rI g 38 4) < 1 := by
    by_cases q : 0 ≤ (rI g 38 4) ∧ (rI g 38 4) < 1
    · exact q
    · rw [if_neg q] at hf; cases hf
  rw [if_pos h1] at hf
  have h2 : 0 ≤ (((rI g 38 4) * 24) + (rA g 40 (rI g 38 4))) ∧ (((rI g 38 4) * 24) + (rA g 40 (rI g 38 4))) < 24 := by
    by_cases q : 0 ≤ (((rI g 38 4) * 24) + (rA g 40 (rI g 38 4))) ∧ (((rI g 38 4) * 24) + (rA g 40 (rI g 38 4))) < 24
    · exact q
    · rw [if_neg q] at hf; cases hf
  rw [if_pos h2] at hf
  have h3 : ir a2 := by
    by_cases q : ir a2
    · exact q
    · rw [if_neg q] at hf; cases hf
  rw [if_pos h3] at hf
  by_cases h4 : a2 = 0
  · rw [if_pos h4] at hf
    refine Rt.path ok_Expressions_append 25 [1] rfl ⟨(ix_1 h1), (ix_24 h2), (ix_1 h1), (ix_1 h1), ⟨h3, h4⟩, trivial⟩ ?_
    cases hf
    exact Rt.retV ok_Expressions_append rfl rfl
  · rw [if_neg h4] at hf
    refine Rt.path ok_Expressions_append 25 [0] rfl ⟨(ix_1 h1), (ix_24 h2), (ix_1 h1), (ix_1 h1), ⟨h3, h4⟩, trivial⟩ ?_
    cases hf
    refine Rt.path ok_Expressions_append 11 [] rfl ⟨(ix_1 h1), (ix_1 h1), trivial⟩ ?_
    exact Rt.retV ok_Expressions_append rfl rfl
def b_Proof_replaceIn_34_0 (L : Nat → Int → Int → G2 → Option (Int × G2)) (i1 : Int) (i3 : Int) (g : G2) : Option (Int × G2) :=
  if 0 ≤ i1 ∧ i1 < 40 then
  if ir i3 then
  if ir (rA g 12 i1) then
  if i3 < (rA g 12 i1) then
    (f_Expressions_symbolAt_11 i1 i3 g).bind fun q6 =>
    if 0 ≤ q6.1 ∧ q6.1 < 60 then
    if ir (rA q6.2 5 q6.1) then
    if (rA q6.2 5 q6.1) = 1 then
      if 0 ≤ (rA q6.2 42 q6.1) ∧ (rA q6.2 42 q6.1) < 16 then
      (f_Expressions_rowHasRoom_39 ((rA q6.2 36 (rA q6.2 42 q6.1)) - 1) q6.2).bind fun q11 =>
      if ir q11.1 then
      if q11.1 = 0 then
        some (0, q11.2)
      else
        (f_Expressions_appendBody_39_35 (rA q11.2 42 q6.1) q11.2).bind fun q14 =>
        L 0 i1 (i3 + 1) q14
      else none
      else none
    else
      (f_Expressions_rowHasRoom_39 1 q6.2).bind fun q15 =>
      if ir q15.1 then
      if q15.1 = 0 then
        some (0, q15.2)
      else
        (f_Expressions_append_39 q6.1 0 q15.2).bind fun q18 =>
        L 0 i1 (i3 + 1) q18
      else none
    else none
    else none
  else
    some (1, g)
  else none
  else none
  else none
def l_Proof_replaceIn_34 : Nat → Nat → Int → Int → G2 → Option (Int × G2)
  | 0 => fun _ _ _ _ => none
  | n + 1 => fun t i1 i3 g => match t with
    | _ => b_Proof_replaceIn_34_0 (l_Proof_replaceIn_34 n) i1 i3 g
set_option maxHeartbeats 4000000 in
set_option maxRecDepth 100000 in
theorem rl_Proof_replaceIn_34 (d : Nat) : ∀ (n : Nat) (i1 : Int) (i3 : Int) (g : G2) (r : Int) (g' : G2), (l_Proof_replaceIn_34 n 0 i1 i3 g = some (r, g') → Rt (d + 1) m_Proof_replaceIn 17 [some (vR 34), some (vI i1), some (vR 11), some (vI i3), none, none] [] g (some (vI r)) g') := by
  intro n
  induction n with
  | zero => intro i1 i3 g r g'; exact fun hf => by cases hf
  | succ n ih =>
    intro i1 i3 g r g'
    intro hf
    replace hf : b_Proof_replaceIn_34_0 (l_Proof_replaceIn_34 n) i1 i3 g = some (r, g') := hf
    unfold b_Proof_replaceIn_34_0 at hf
    have h2 : 0 ≤ i1 ∧ i1 < 40 := by
      by_cases q : 0 ≤ i1 ∧ i1 < 40
      · exact q
      · rw [if_neg q] at hf; cases hf
    rw [if_pos h2] at hf
    have h3 : ir i3 := by
      by_cases q : ir i3
      · exact q
      · rw [if_neg q] at hf; cases hf
    rw [if_pos h3] at hf
    have h4 : ir (rA g 12 i1) := by
      by_cases q : ir (rA g 12 i1)
      · exact q
      · rw [if_neg q] at hf; cases hf
    rw [if_pos h4] at hf
    by_cases h5 : i3 < (rA g 12 i1)
    · rw [if_pos h5] at hf
      refine Rt.path ok_Proof_replaceIn 6 [0] rfl ⟨(ix_40 h2), ⟨⟨h3, h4⟩, h5⟩, trivial⟩ ?_
      obtain ⟨q6, e6, hf⟩ := Option.bind_eq_some_iff.mp hf
      refine Rt.path ok_Proof_replaceIn 3 [] rfl trivial ?_
      refine Rt.callV ok_Proof_replaceIn rfl ml_Proof_113 [vI _, vI _] cf_Expressions_symbolAt rfl rfl (c_Expressions_symbolAt_11 d _ _ _ _ _ e6) (Nat.le_of_ble_eq_true rfl) ?_
      have h7 : 0 ≤ q6.1 ∧ q6.1 < 60 := by
        by_cases q : 0 ≤ q6.1 ∧ q6.1 < 60
        · exact q
        · rw [if_neg q] at hf; cases hf
      rw [if_pos h7] at hf
      have h8 : ir (rA q6.2 5 q6.1) := by
        by_cases q : ir (rA q6.2 5 q6.1)
        · exact q
        · rw [if_neg q] at hf; cases hf
      rw [if_pos h8] at hf
      by_cases h9 : (rA q6.2 5 q6.1) = 1
      · rw [if_pos h9] at hf
        refine Rt.path ok_Proof_replaceIn 8 [0] rfl ⟨(ix_60 h7), ⟨⟨h8, (show ir 1 by decide)⟩, h9⟩, trivial⟩ ?_
        have h10 : 0 ≤ (rA q6.2 42 q6.1) ∧ (rA q6.2 42 q6.1) < 16 := by
          by_cases q : 0 ≤ (rA q6.2 42 q6.1) ∧ (rA q6.2 42 q6.1) < 16
          · exact q
          · rw [if_neg q] at hf; cases hf
        rw [if_pos h10] at hf
        obtain ⟨q11, e11, hf⟩ := Option.bind_eq_some_iff.mp hf
        refine Rt.path ok_Proof_replaceIn 18 [0] rfl ⟨⟨(show ir 1 by decide), (show ¬ (1 : Int) = (0 : Int) by decide)⟩, (ix_60 h7), (ix_16 h10), trivial⟩ ?_
        refine Rt.callV ok_Proof_replaceIn rfl ml_Proof_130 [vI _] cf_Expressions_rowHasRoom rfl rfl (c_Expressions_rowHasRoom_39 d _ _ _ _ e11) (Nat.le_of_ble_eq_true rfl) ?_
        have h12 : ir q11.1 := by
          by_cases q : ir q11.1
          · exact q
          · rw [if_neg q] at hf; cases hf
        rw [if_pos h12] at hf
        by_cases h13 : q11.1 = 0
        · rw [if_pos h13] at hf
          refine Rt.path ok_Proof_replaceIn 1 [0] rfl ⟨⟨h12, h13⟩, trivial⟩ ?_
          cases hf
          refine Rt.path ok_Proof_replaceIn 1 [] rfl trivial ?_
          exact Rt.retZ ok_Proof_replaceIn (show (0 : Int) = 0 ∨ (0 : Int) = 1 by decide) rfl rfl
        · rw [if_neg h13] at hf
          refine Rt.path ok_Proof_replaceIn 1 [1] rfl ⟨⟨h12, h13⟩, trivial⟩ ?_
          obtain ⟨q14, e14, hf⟩ := Option.bind_eq_some_iff.mp hf
          refine Rt.path ok_Proof_replaceIn 10 [0] rfl ⟨⟨(show ir 1 by decide), (show ¬ (1 : Int) = (0 : Int) by decide)⟩, (ix_60 h7), trivial⟩ ?_
          refine Rt.callV ok_Proof_replaceIn rfl ml_Proof_133 [vR 35, vI _] cf_Expressions_appendBody rfl rfl (c_Expressions_appendBody_39_35 d _ _ _ e14) (Nat.le_of_ble_eq_true rfl) ?_
          refine Rt.path ok_Proof_replaceIn 3 [] rfl trivial ?_
          exact Rt.weak ((ih _ _ _ _ _) hf) ⟨rfl, rfl, rfl, rfl, trivial⟩
      · rw [if_neg h9] at hf
        refine Rt.path ok_Proof_replaceIn 8 [1] rfl ⟨(ix_60 h7), ⟨⟨h8, (show ir 1 by decide)⟩, h9⟩, trivial⟩ ?_
        obtain ⟨q15, e15, hf⟩ := Option.bind_eq_some_iff.mp hf
        refine Rt.path ok_Proof_replaceIn 7 [1] rfl ⟨⟨(show ir 0 by decide), (show (0 : Int) = (0 : Int) by decide)⟩, trivial⟩ ?_
        refine Rt.callV ok_Proof_replaceIn rfl ml_Proof_130 [vI _] cf_Expressions_rowHasRoom rfl rfl (c_Expressions_rowHasRoom_39 d _ _ _ _ e15) (Nat.le_of_ble_eq_true rfl) ?_
        have h16 : ir q15.1 := by
          by_cases q : ir q15.1
          · exact q
          · rw [if_neg q] at hf; cases hf
        rw [if_pos h16] at hf
        by_cases h17 : q15.1 = 0
        · rw [if_pos h17] at hf
          refine Rt.path ok_Proof_replaceIn 1 [0] rfl ⟨⟨h16, h17⟩, trivial⟩ ?_
          cases hf
          refine Rt.path ok_Proof_replaceIn 1 [] rfl trivial ?_
          exact Rt.retZ ok_Proof_replaceIn (show (0 : Int) = 0 ∨ (0 : Int) = 1 by decide) rfl rfl
        · rw [if_neg h17] at hf
          refine Rt.path ok_Proof_replaceIn 1 [1] rfl ⟨⟨h16, h17⟩, trivial⟩ ?_
          obtain ⟨q18, e18, hf⟩ := Option.bind_eq_some_iff.mp hf
          refine Rt.path ok_Proof_replaceIn 6 [1] rfl ⟨⟨(show ir 0 by decide), (show (0 : Int) = (0 : Int) by decide)⟩, trivial⟩ ?_
          refine Rt.callV ok_Proof_replaceIn rfl ml_Proof_136 [vI _, vI _] cf_Expressions_append rfl rfl (c_Expressions_append_39 d _ _ _ _ e18) (Nat.le_of_ble_eq_true rfl) ?_
          refine Rt.path ok_Proof_replaceIn 2 [] rfl trivial ?_
          exact Rt.weak ((ih _ _ _ _ _) hf) ⟨rfl, rfl, rfl, rfl, trivial⟩
    · rw [if_neg h5] at hf
      refine Rt.path ok_Proof_replaceIn 6 [1] rfl ⟨(ix_40 h2), ⟨⟨h3, h4⟩, (Int.not_lt.mp h5)⟩, trivial⟩ ?_
      cases hf
      refine Rt.path ok_Proof_replaceIn 1 [] rfl trivial ?_
      exact Rt.retZ ok_Proof_replaceIn (show (1 : Int) = 0 ∨ (1 : Int) = 1 by decide) rfl rfl
def f_Proof_replaceIn_34 (a1 : Int) (g : G2) : Option (Int × G2) :=
  (f_Expressions_startRow_39 g).bind fun q1 =>
  l_Proof_replaceIn_34 20000 0 a1 0 q1
set_option maxHeartbeats 4000000 in
set_option maxRecDepth 100000 in
theorem c_Proof_replaceIn_34 (d : Nat) (a1 : Int) (g : G2) (r : Int) (g' : G2) (hf : f_Proof_replaceIn_34 a1 g = some (r, g')) : C2 (d + 1) m_Proof_replaceIn [vR 34, vI a1] g (some (vI r)) g' := by
  unfold f_Proof_replaceIn_34 at hf
  refine C2.of rfl rfl rfl (Nat.le_of_ble_eq_true rfl) ?_
  obtain ⟨q1, e1, hf⟩ := Option.bind_eq_some_iff.mp hf
  refine Rt.path ok_Proof_replaceIn 6 [] rfl trivial ?_
  refine Rt.callV ok_Proof_replaceIn rfl ml_Proof_121 [] cf_Expressions_startRow rfl rfl (c_Expressions_startRow_39 d _ _ e1) (Nat.le_of_ble_eq_true rfl) ?_
  refine Rt.path ok_Proof_replaceIn 2 [] rfl trivial ?_
  exact Rt.weak ((rl_Proof_replaceIn_34 d _ _ _ _ _ _) hf) ⟨rfl, rfl, rfl, rfl, trivial⟩
def b_Expressions_isSame_35_39_0 (L : Nat → Int → Int → Int → G2 → Option (Int × G2)) (i1 : Int) (i3 : Int) (i4 : Int) (g : G2) : Option (Int × G2) :=
  if 0 ≤ i1 ∧ i1 < 16 then
  if ir i4 then
  if ir (rA g 36 i1) then
  if i4 < (rA g 36 i1) then
    if 0 ≤ ((i1 * 24) + i4) ∧ ((i1 * 24) + i4) < 384 then
    if 0 ≤ ((i3 * 24) + i4) ∧ ((i3 * 24) + i4) < 24 then
    if ir (rA g 35 ((i1 * 24) + i4)) then
    if ir (rA g 39 ((i3 * 24) + i4)) then
    if (rA g 35 ((i1 * 24) + i4)) = (rA g 39 ((i3 * 24) + i4)) then
      L 0 i1 i3 (i4 + 1) g
    else
      some (0, g)
    else none
    else none
    else none
    else none
  else
    some (1, g)
  else none
  else none
  else none
def l_Expressions_isSame_35_39 : Nat → Nat → Int → Int → Int → G2 → Option (Int × G2)
  | 0 => fun _ _ _ _ _ => none
  | n + 1 => fun t i1 i3 i4 g => match t with
    | _ => b_Expressions_isSame_35_39_0 (l_Expressions_isSame_35_39 n) i1 i3 i4 g
set_option maxHeartbeats 4000000 in
set_option maxRecDepth 100000 in
theorem rl_Expressions_isSame_35_39 (d : Nat) : ∀ (n : Nat) (i1 : Int) (i3 : Int) (i4 : Int) (g : G2) (r : Int) (g' : G2), (l_Expressions_isSame_35_39 n 0 i1 i3 i4 g = some (r, g') → Rt d m_Expressions_isSame 20 [some (vR 35), some (vI i1), some (vR 39), some (vI i3), some (vI i4)] [] g (some (vI r)) g') := by
  intro n
  induction n with
  | zero => intro i1 i3 i4 g r g'; exact fun hf => by cases hf
  | succ n ih =>
    intro i1 i3 i4 g r g'
    intro hf
    replace hf : b_Expressions_isSame_35_39_0 (l_Expressions_isSame_35_39 n) i1 i3 i4 g = some (r, g') := hf
    unfold b_Expressions_isSame_35_39_0 at hf
    have h6 : 0 ≤ i1 ∧ i1 < 16 := by
      by_cases q : 0 ≤ i1 ∧ i1 < 16
      · exact q
      · rw [if_neg q] at hf; cases hf
    rw [if_pos h6] at hf
    have h7 : ir i4 := by
      by_cases q : ir i4
      · exact q
      · rw [if_neg q] at hf; cases hf
    rw [if_pos h7] at hf
    have h8 : ir (rA g 36 i1) := by
      by_cases q : ir (rA g 36 i1)
      · exact q
      · rw [if_neg q] at hf; cases hf
    rw [if_pos h8] at hf
    by_cases h9 : i4 < (rA g 36 i1)
    · rw [if_pos h9] at hf
      refine Rt.path ok_Expressions_isSame 6 [0] rfl ⟨(ix_16 h6), ⟨⟨h7, h8⟩, h9⟩, trivial⟩ ?_
      have h10 : 0 ≤ ((i1 * 24) + i4) ∧ ((i1 * 24) + i4) < 384 := by
        by_cases q : 0 ≤ ((i1 * 24) + i4) ∧ ((i1 * 24) + i4) < 384
        · exact q
        · rw [if_neg q] at hf; cases hf
      rw [if_pos h10] at hf
      have h11 : 0 ≤ ((i3 * 24) + i4) ∧ ((i3 * 24) + i4) < 24 := by
        by_cases q : 0 ≤ ((i3 * 24) + i4) ∧ ((i3 * 24) + i4) < 24
        · exact q
        · rw [if_neg q] at hf; cases hf
      rw [if_pos h11] at hf
      have h12 : ir (rA g 35 ((i1 * 24) + i4)) := by
        by_cases q : ir (rA g 35 ((i1 * 24) + i4))
        · exact q
        · rw [if_neg q] at hf; cases hf
      rw [if_pos h12] at hf
      have h13 : ir (rA g 39 ((i3 * 24) + i4)) := by
        by_cases q : ir (rA g 39 ((i3 * 24) + i4))
        · exact q
        · rw [if_neg q] at hf; cases hf
      rw [if_pos h13] at hf
      by_cases h14 : (rA g 35 ((i1 * 24) + i4)) = (rA g 39 ((i3 * 24) + i4))
      · rw [if_pos h14] at hf
        refine Rt.path ok_Expressions_isSame 17 [1] rfl ⟨(ix_384 h10), (ix_24 h11), ⟨⟨h12, h13⟩, h14⟩, trivial⟩ ?_
        refine Rt.path ok_Expressions_isSame 2 [] rfl trivial ?_
        exact Rt.weak ((ih _ _ _ _ _ _) hf) ⟨rfl, rfl, rfl, rfl, rfl, trivial⟩
      · rw [if_neg h14] at hf
        refine Rt.path ok_Expressions_isSame 17 [0] rfl ⟨(ix_384 h10), (ix_24 h11), ⟨⟨h12, h13⟩, h14⟩, trivial⟩ ?_
        cases hf
        refine Rt.path ok_Expressions_isSame 1 [] rfl trivial ?_
        exact Rt.retZ ok_Expressions_isSame (show (0 : Int) = 0 ∨ (0 : Int) = 1 by decide) rfl rfl
    · rw [if_neg h9] at hf
      refine Rt.path ok_Expressions_isSame 6 [1] rfl ⟨(ix_16 h6), ⟨⟨h7, h8⟩, (Int.not_lt.mp h9)⟩, trivial⟩ ?_
      cases hf
      refine Rt.path ok_Expressions_isSame 1 [] rfl trivial ?_
      exact Rt.retZ ok_Expressions_isSame (show (1 : Int) = 0 ∨ (1 : Int) = 1 by decide) rfl rfl
def f_Expressions_isSame_35_39 (a1 : Int) (a3 : Int) (g : G2) : Option (Int × G2) :=
  if 0 ≤ a1 ∧ a1 < 16 then
  if 0 ≤ a3 ∧ a3 < 1 then
  if ir (rA g 36 a1) then
  if ir (rA g 40 a3) then
  if (rA g 36 a1) = (rA g 40 a3) then
    l_Expressions_isSame_35_39 20000 0 a1 a3 0 g
  else
    some (0, g)
  else none
  else none
  else none
  else none
set_option maxHeartbeats 4000000 in
set_option maxRecDepth 100000 in
theorem c_Expressions_isSame_35_39 (d : Nat) (a1 : Int) (a3 : Int) (g : G2) (r : Int) (g' : G2) (hf : f_Expressions_isSame_35_39 a1 a3 g = some (r, g')) : C2 d m_Expressions_isSame [vR 35, vI a1, vR 39, vI a3] g (some (vI r)) g' := by
  unfold f_Expressions_isSame_35_39 at hf
  refine C2.of rfl rfl rfl (Nat.le_of_ble_eq_true rfl) ?_
  have h1 : 0 ≤ a1 ∧ a1 < 16 := by
    by_cases q : 0 ≤ a1 ∧ a1 < 16
    · exact q
    · rw [if_neg q] at hf; cases hf
  rw [if_pos h1] at hf
  have h2 : 0 ≤ a3 ∧ a3 < 1 := by
    by_cases q : 0 ≤ a3 ∧ a3 < 1
    · exact q
    · rw [if_neg q] at hf; cases hf
  rw [if_pos h2] at hf
  have h3 : ir (rA g 36 a1) := by
    by_cases q : ir (rA g 36 a1)
    · exact q
    · rw [if_neg q] at hf; cases hf
  rw [if_pos h3] at hf
  have h4 : ir (rA g 40 a3) := by
    by_cases q : ir (rA g 40 a3)
    · exact q
    · rw [if_neg q] at hf; cases hf
  rw [if_pos h4] at hf
  by_cases h5 : (rA g 36 a1) = (rA g 40 a3)
  · rw [if_pos h5] at hf
    refine Rt.path ok_Expressions_isSame 9 [1] rfl ⟨(ix_16 h1), (ix_1 h2), ⟨⟨h3, h4⟩, h5⟩, trivial⟩ ?_
    refine Rt.path ok_Expressions_isSame 2 [] rfl trivial ?_
    exact Rt.weak ((rl_Expressions_isSame_35_39 d _ _ _ _ _ _ _) hf) ⟨rfl, rfl, rfl, rfl, rfl, trivial⟩
  · rw [if_neg h5] at hf
    refine Rt.path ok_Expressions_isSame 9 [0] rfl ⟨(ix_16 h1), (ix_1 h2), ⟨⟨h3, h4⟩, h5⟩, trivial⟩ ?_
    cases hf
    refine Rt.path ok_Expressions_isSame 1 [] rfl trivial ?_
    exact Rt.retZ ok_Expressions_isSame (show (0 : Int) = 0 ∨ (0 : Int) = 1 by decide) rfl rfl
def b_Proof_bind_34_0 (L : Nat → Int → Int → Int → G2 → Option (Int × G2)) (i1 : Int) (i4 : Int) (i5 : Int) (g : G2) : Option (Int × G2) :=
  if ir i5 then
  if ir i1 then
  if i5 < i1 then
    (f_Statements_isMandatory_8 i1 i5 g).bind fun q4 =>
    if ir q4.1 then
    if q4.1 = 0 then
      L 0 i1 i4 (i5 + 1) q4.2
    else
      if 0 ≤ i5 ∧ i5 < 40 then
      if ir (rA q4.2 9 i5) then
      if (rA q4.2 9 i5) = 0 then
        (f_Expressions_symbolAt_35 i4 0 q4.2).bind fun q10 =>
        (f_Expressions_symbolAt_11 i5 0 q10.2).bind fun q11 =>
        if ir q10.1 then
        if ir q11.1 then
        if q10.1 = q11.1 then
          (f_Expressions_symbolAt_11 i5 1 q11.2).bind fun q15 =>
          if 0 ≤ q15.1 ∧ q15.1 < 60 then
          L 0 i1 (i4 + 1) (i5 + 1) (gA q15.2 42 q15.1 i4)
          else none
        else
          some (0, q11.2)
        else none
        else none
      else
        (f_Proof_replaceIn_34 i5 q4.2).bind fun q17 =>
        if ir q17.1 then
        if q17.1 = 0 then
          some (0, q17.2)
        else
          (f_Expressions_isSame_35_39 i4 0 q17.2).bind fun q20 =>
          if ir q20.1 then
          if q20.1 = 0 then
            some (0, q20.2)
          else
            L 0 i1 (i4 + 1) (i5 + 1) q20.2
          else none
        else none
      else none
      else none
    else none
  else
    some (1, g)
  else none
  else none
def l_Proof_bind_34 : Nat → Nat → Int → Int → Int → G2 → Option (Int × G2)
  | 0 => fun _ _ _ _ _ => none
  | n + 1 => fun t i1 i4 i5 g => match t with
    | _ => b_Proof_bind_34_0 (l_Proof_bind_34 n) i1 i4 i5 g
set_option maxHeartbeats 4000000 in
set_option maxRecDepth 100000 in
theorem rl_Proof_bind_34 (d : Nat) : ∀ (n : Nat) (i1 : Int) (i4 : Int) (i5 : Int) (g : G2) (r : Int) (g' : G2), (l_Proof_bind_34 n 0 i1 i4 i5 g = some (r, g') → Rt (d + 2) m_Proof_bind 14 [some (vR 34), some (vI i1), none, some (vR 11), some (vI i4), some (vI i5)] [] g (some (vI r)) g') := by
  intro n
  induction n with
  | zero => intro i1 i4 i5 g r g'; exact fun hf => by cases hf
  | succ n ih =>
    intro i1 i4 i5 g r g'
    intro hf
    replace hf : b_Proof_bind_34_0 (l_Proof_bind_34 n) i1 i4 i5 g = some (r, g') := hf
    unfold b_Proof_bind_34_0 at hf
    have h1 : ir i5 := by
      by_cases q : ir i5
      · exact q
      · rw [if_neg q] at hf; cases hf
    rw [if_pos h1] at hf
    have h2 : ir i1 := by
      by_cases q : ir i1
      · exact q
      · rw [if_neg q] at hf; cases hf
    rw [if_pos h2] at hf
    by_cases h3 : i5 < i1
    · rw [if_pos h3] at hf
      refine Rt.path ok_Proof_bind 3 [0] rfl ⟨⟨⟨h1, h2⟩, h3⟩, trivial⟩ ?_
      obtain ⟨q4, e4, hf⟩ := Option.bind_eq_some_iff.mp hf
      refine Rt.path ok_Proof_bind 4 [] rfl trivial ?_
      refine Rt.callV ok_Proof_bind rfl ml_Proof_107 [vI _, vI _] cf_Statements_isMandatory rfl rfl (c_Statements_isMandatory_8 (d + 1) _ _ _ _ _ e4) (Nat.le_of_ble_eq_true rfl) ?_
      have h5 : ir q4.1 := by
        by_cases q : ir q4.1
        · exact q
        · rw [if_neg q] at hf; cases hf
      rw [if_pos h5] at hf
      by_cases h6 : q4.1 = 0
      · rw [if_pos h6] at hf
        refine Rt.path ok_Proof_bind 1 [0] rfl ⟨⟨h5, h6⟩, trivial⟩ ?_
        refine Rt.path ok_Proof_bind 3 [] rfl trivial ?_
        exact Rt.weak ((ih _ _ _ _ _ _) hf) ⟨rfl, rfl, rfl, rfl, rfl, trivial⟩
      · rw [if_neg h6] at hf
        refine Rt.path ok_Proof_bind 1 [1] rfl ⟨⟨h5, h6⟩, trivial⟩ ?_
        have h7 : 0 ≤ i5 ∧ i5 < 40 := by
          by_cases q : 0 ≤ i5 ∧ i5 < 40
          · exact q
          · rw [if_neg q] at hf; cases hf
        rw [if_pos h7] at hf
        have h8 : ir (rA q4.2 9 i5) := by
          by_cases q : ir (rA q4.2 9 i5)
          · exact q
          · rw [if_neg q] at hf; cases hf
        rw [if_pos h8] at hf
        by_cases h9 : (rA q4.2 9 i5) = 0
        · rw [if_pos h9] at hf
          refine Rt.path ok_Proof_bind 6 [0] rfl ⟨(ix_40 h7), ⟨h8, h9⟩, trivial⟩ ?_
          obtain ⟨q10, e10, hf⟩ := Option.bind_eq_some_iff.mp hf
          refine Rt.path ok_Proof_bind 4 [] rfl trivial ?_
          refine Rt.callV ok_Proof_bind rfl ml_Proof_113 [vI _, vI _] cf_Expressions_symbolAt rfl rfl (c_Expressions_symbolAt_35 (d + 1) _ _ _ _ _ e10) (Nat.le_of_ble_eq_true rfl) ?_
          obtain ⟨q11, e11, hf⟩ := Option.bind_eq_some_iff.mp hf
          refine Rt.path ok_Proof_bind 3 [] rfl trivial ?_
          refine Rt.callV ok_Proof_bind rfl ml_Proof_113 [vI _, vI _] cf_Expressions_symbolAt rfl rfl (c_Expressions_symbolAt_11 (d + 1) _ _ _ _ _ e11) (Nat.le_of_ble_eq_true rfl) ?_
          have h12 : ir q10.1 := by
            by_cases q : ir q10.1
            · exact q
            · rw [if_neg q] at hf; cases hf
          rw [if_pos h12] at hf
          have h13 : ir q11.1 := by
            by_cases q : ir q11.1
            · exact q
            · rw [if_neg q] at hf; cases hf
          rw [if_pos h13] at hf
          by_cases h14 : q10.1 = q11.1
          · rw [if_pos h14] at hf
            refine Rt.path ok_Proof_bind 1 [1] rfl ⟨⟨⟨h12, h13⟩, h14⟩, trivial⟩ ?_
            obtain ⟨q15, e15, hf⟩ := Option.bind_eq_some_iff.mp hf
            refine Rt.path ok_Proof_bind 5 [] rfl trivial ?_
            refine Rt.callV ok_Proof_bind rfl ml_Proof_113 [vI _, vI _] cf_Expressions_symbolAt rfl rfl (c_Expressions_symbolAt_11 (d + 1) _ _ _ _ _ e15) (Nat.le_of_ble_eq_true rfl) ?_
            have h16 : 0 ≤ q15.1 ∧ q15.1 < 60 := by
              by_cases q : 0 ≤ q15.1 ∧ q15.1 < 60
              · exact q
              · rw [if_neg q] at hf; cases hf
            rw [if_pos h16] at hf
            refine Rt.path ok_Proof_bind 6 [] rfl ⟨(ix_60 h16), trivial⟩ ?_
            exact Rt.weak ((ih _ _ _ _ _ _) hf) ⟨rfl, rfl, rfl, rfl, rfl, trivial⟩
          · rw [if_neg h14] at hf
            refine Rt.path ok_Proof_bind 1 [0] rfl ⟨⟨⟨h12, h13⟩, h14⟩, trivial⟩ ?_
            cases hf
            refine Rt.path ok_Proof_bind 1 [] rfl trivial ?_
            exact Rt.retZ ok_Proof_bind (show (0 : Int) = 0 ∨ (0 : Int) = 1 by decide) rfl rfl
        · rw [if_neg h9] at hf
          refine Rt.path ok_Proof_bind 6 [1] rfl ⟨(ix_40 h7), ⟨h8, h9⟩, trivial⟩ ?_
          obtain ⟨q17, e17, hf⟩ := Option.bind_eq_some_iff.mp hf
          refine Rt.path ok_Proof_bind 2 [] rfl trivial ?_
          refine Rt.callV ok_Proof_bind rfl ml_Proof_90 [vI _] cf_Proof_replaceIn rfl rfl (c_Proof_replaceIn_34 d _ _ _ _ e17) (Nat.le_of_ble_eq_true rfl) ?_
          have h18 : ir q17.1 := by
            by_cases q : ir q17.1
            · exact q
            · rw [if_neg q] at hf; cases hf
          rw [if_pos h18] at hf
          by_cases h19 : q17.1 = 0
          · rw [if_pos h19] at hf
            refine Rt.path ok_Proof_bind 1 [1] rfl ⟨⟨h18, h19⟩, trivial⟩ ?_
            cases hf
            refine Rt.path ok_Proof_bind 1 [] rfl trivial ?_
            exact Rt.retZ ok_Proof_bind (show (0 : Int) = 0 ∨ (0 : Int) = 1 by decide) rfl rfl
          · rw [if_neg h19] at hf
            refine Rt.path ok_Proof_bind 1 [0] rfl ⟨⟨h18, h19⟩, trivial⟩ ?_
            obtain ⟨q20, e20, hf⟩ := Option.bind_eq_some_iff.mp hf
            refine Rt.path ok_Proof_bind 6 [] rfl trivial ?_
            refine Rt.callV ok_Proof_bind rfl ml_Proof_117 [vI _, vR 39, vI _] cf_Expressions_isSame rfl rfl (c_Expressions_isSame_35_39 (d + 1) _ _ _ _ _ e20) (Nat.le_of_ble_eq_true rfl) ?_
            have h21 : ir q20.1 := by
              by_cases q : ir q20.1
              · exact q
              · rw [if_neg q] at hf; cases hf
            rw [if_pos h21] at hf
            by_cases h22 : q20.1 = 0
            · rw [if_pos h22] at hf
              refine Rt.path ok_Proof_bind 1 [0] rfl ⟨⟨h21, h22⟩, trivial⟩ ?_
              cases hf
              refine Rt.path ok_Proof_bind 1 [] rfl trivial ?_
              exact Rt.retZ ok_Proof_bind (show (0 : Int) = 0 ∨ (0 : Int) = 1 by decide) rfl rfl
            · rw [if_neg h22] at hf
              refine Rt.path ok_Proof_bind 1 [1] rfl ⟨⟨h21, h22⟩, trivial⟩ ?_
              refine Rt.path ok_Proof_bind 3 [] rfl trivial ?_
              exact Rt.weak ((ih _ _ _ _ _ _) hf) ⟨rfl, rfl, rfl, rfl, rfl, trivial⟩
    · rw [if_neg h3] at hf
      refine Rt.path ok_Proof_bind 3 [1] rfl ⟨⟨⟨h1, h2⟩, (Int.not_lt.mp h3)⟩, trivial⟩ ?_
      cases hf
      refine Rt.path ok_Proof_bind 1 [] rfl trivial ?_
      exact Rt.retZ ok_Proof_bind (show (1 : Int) = 0 ∨ (1 : Int) = 1 by decide) rfl rfl
def f_Proof_bind_34 (a1 : Int) (a2 : Int) (g : G2) : Option (Int × G2) :=
  l_Proof_bind_34 20000 0 a1 a2 0 g
set_option maxHeartbeats 4000000 in
set_option maxRecDepth 100000 in
theorem c_Proof_bind_34 (d : Nat) (a1 : Int) (a2 : Int) (g : G2) (r : Int) (g' : G2) (hf : f_Proof_bind_34 a1 a2 g = some (r, g')) : C2 (d + 2) m_Proof_bind [vR 34, vI a1, vI a2] g (some (vI r)) g' := by
  unfold f_Proof_bind_34 at hf
  refine C2.of rfl rfl rfl (Nat.le_of_ble_eq_true rfl) ?_
  refine Rt.path ok_Proof_bind 8 [] rfl trivial ?_
  exact Rt.weak ((rl_Proof_bind_34 d _ _ _ _ _ _ _) hf) ⟨rfl, rfl, rfl, rfl, rfl, trivial⟩
def f_Assertions_firstOfPair_17 (a1 : Int) (a2 : Int) (g : G2) : Option (Int × G2) :=
  if 0 ≤ ((a1 * 40) + a2) ∧ ((a1 * 40) + a2) < 1600 then
  (f_Context_firstOf (rA g 19 ((a1 * 40) + a2)) g).bind fun q2 =>
  some (q2.1, q2.2)
  else none
set_option maxHeartbeats 4000000 in
set_option maxRecDepth 100000 in
theorem c_Assertions_firstOfPair_17 (d : Nat) (a1 : Int) (a2 : Int) (g : G2) (r : Int) (g' : G2) (hf : f_Assertions_firstOfPair_17 a1 a2 g = some (r, g')) : C2 (d + 1) m_Assertions_firstOfPair [vR 17, vI a1, vI a2] g (some (vI r)) g' := by
  unfold f_Assertions_firstOfPair_17 at hf
  refine C2.of rfl rfl rfl (Nat.le_of_ble_eq_true rfl) ?_
  have h1 : 0 ≤ ((a1 * 40) + a2) ∧ ((a1 * 40) + a2) < 1600 := by
    by_cases q : 0 ≤ ((a1 * 40) + a2) ∧ ((a1 * 40) + a2) < 1600
    · exact q
    · rw [if_neg q] at hf; cases hf
  rw [if_pos h1] at hf
  obtain ⟨q2, e2, hf⟩ := Option.bind_eq_some_iff.mp hf
  refine Rt.path ok_Assertions_firstOfPair 8 [] rfl ⟨(ix_1600 h1), trivial⟩ ?_
  refine Rt.callS ok_Assertions_firstOfPair rfl ml_Assertions_49 [vI _] cf_Context_firstOf (c_Context_firstOf d _ _ _ _ e2) (Nat.le_of_ble_eq_true rfl) ?_
  cases hf
  exact Rt.retI ok_Assertions_firstOfPair rfl rfl
def f_Assertions_secondOfPair_17 (a1 : Int) (a2 : Int) (g : G2) : Option (Int × G2) :=
  if 0 ≤ ((a1 * 40) + a2) ∧ ((a1 * 40) + a2) < 1600 then
  (f_Context_secondOf (rA g 19 ((a1 * 40) + a2)) g).bind fun q2 =>
  some (q2.1, q2.2)
  else none
set_option maxHeartbeats 4000000 in
set_option maxRecDepth 100000 in
theorem c_Assertions_secondOfPair_17 (d : Nat) (a1 : Int) (a2 : Int) (g : G2) (r : Int) (g' : G2) (hf : f_Assertions_secondOfPair_17 a1 a2 g = some (r, g')) : C2 (d + 1) m_Assertions_secondOfPair [vR 17, vI a1, vI a2] g (some (vI r)) g' := by
  unfold f_Assertions_secondOfPair_17 at hf
  refine C2.of rfl rfl rfl (Nat.le_of_ble_eq_true rfl) ?_
  have h1 : 0 ≤ ((a1 * 40) + a2) ∧ ((a1 * 40) + a2) < 1600 := by
    by_cases q : 0 ≤ ((a1 * 40) + a2) ∧ ((a1 * 40) + a2) < 1600
    · exact q
    · rw [if_neg q] at hf; cases hf
  rw [if_pos h1] at hf
  obtain ⟨q2, e2, hf⟩ := Option.bind_eq_some_iff.mp hf
  refine Rt.path ok_Assertions_secondOfPair 8 [] rfl ⟨(ix_1600 h1), trivial⟩ ?_
  refine Rt.callS ok_Assertions_secondOfPair rfl ml_Assertions_53 [vI _] cf_Context_secondOf (c_Context_secondOf d _ _ _ _ e2) (Nat.le_of_ble_eq_true rfl) ?_
  cases hf
  exact Rt.retI ok_Assertions_secondOfPair rfl rfl
def b_Context_areApart_27_0 (L : Nat → Int64 → Int64 → Int → G2 → Option (Int × G2)) (l1 : Int64) (l3 : Int64) (i5 : Int) (g : G2) : Option (Int × G2) :=
  if ir i5 then
  if i5 < 60 then
    if (am_ushr l1 i5) = (Int64.ofNat 0) then
      some (1, g)
    else
      if ((am_ushr l1 i5) &&& (Int64.ofNat 1)) = (Int64.ofNat 0) then
        L 0 l1 l3 (i5 + 1) g
      else
        if 0 ≤ i5 ∧ i5 < 60 then
        if (l3 &&& ((rB g 28 i5) ^^^ (Int64.ofNat 18446744073709551615))) = (Int64.ofNat 0) then
          L 0 l1 l3 (i5 + 1) g
        else
          some (0, g)
        else none
  else
    some (1, g)
  else none
def l_Context_areApart_27 : Nat → Nat → Int64 → Int64 → Int → G2 → Option (Int × G2)
  | 0 => fun _ _ _ _ _ => none
  | n + 1 => fun t l1 l3 i5 g => match t with
    | _ => b_Context_areApart_27_0 (l_Context_areApart_27 n) l1 l3 i5 g
set_option maxHeartbeats 4000000 in
set_option maxRecDepth 100000 in
theorem rl_Context_areApart_27 (d : Nat) : ∀ (n : Nat) (l1 : Int64) (l3 : Int64) (i5 : Int) (g : G2) (r : Int) (g' : G2), (l_Context_areApart_27 n 0 l1 l3 i5 g = some (r, g') → Rt d m_Context_areApart 3 [some (vR 27), some (vL l1), none, some (vL l3), none, some (vI i5)] [] g (some (vI r)) g') := by
  intro n
  induction n with
  | zero => intro l1 l3 i5 g r g'; exact fun hf => by cases hf
  | succ n ih =>
    intro l1 l3 i5 g r g'
    intro hf
    replace hf : b_Context_areApart_27_0 (l_Context_areApart_27 n) l1 l3 i5 g = some (r, g') := hf
    unfold b_Context_areApart_27_0 at hf
    have h1 : ir i5 := by
      by_cases q : ir i5
      · exact q
      · rw [if_neg q] at hf; cases hf
    rw [if_pos h1] at hf
    by_cases h2 : i5 < 60
    · rw [if_pos h2] at hf
      refine Rt.path ok_Context_areApart 3 [0] rfl ⟨⟨⟨h1, (show ir 60 by decide)⟩, h2⟩, trivial⟩ ?_
      by_cases h3 : (am_ushr l1 i5) = (Int64.ofNat 0)
      · rw [if_pos h3] at hf
        refine Rt.path ok_Context_areApart 6 [1] rfl ⟨⟨(am_cmpIn _ _), (am_cmp0.mpr h3)⟩, trivial⟩ ?_
        cases hf
        refine Rt.path ok_Context_areApart 1 [] rfl trivial ?_
        exact Rt.retZ ok_Context_areApart (show (1 : Int) = 0 ∨ (1 : Int) = 1 by decide) rfl rfl
      · rw [if_neg h3] at hf
        refine Rt.path ok_Context_areApart 6 [0] rfl ⟨⟨(am_cmpIn _ _), (fun q => h3 (am_cmp0.mp q))⟩, trivial⟩ ?_
        by_cases h4 : ((am_ushr l1 i5) &&& (Int64.ofNat 1)) = (Int64.ofNat 0)
        · rw [if_pos h4] at hf
          refine Rt.path ok_Context_areApart 8 [1] rfl ⟨⟨(am_cmpIn _ _), (am_cmp0.mpr h4)⟩, trivial⟩ ?_
          refine Rt.path ok_Context_areApart 2 [] rfl trivial ?_
          exact Rt.weak ((ih _ _ _ _ _ _) hf) ⟨rfl, rfl, rfl, rfl, trivial⟩
        · rw [if_neg h4] at hf
          refine Rt.path ok_Context_areApart 8 [0] rfl ⟨⟨(am_cmpIn _ _), (fun q => h4 (am_cmp0.mp q))⟩, trivial⟩ ?_
          have h5 : 0 ≤ i5 ∧ i5 < 60 := by
            by_cases q : 0 ≤ i5 ∧ i5 < 60
            · exact q
            · rw [if_neg q] at hf; cases hf
          rw [if_pos h5] at hf
          by_cases h6 : (l3 &&& ((rB g 28 i5) ^^^ (Int64.ofNat 18446744073709551615))) = (Int64.ofNat 0)
          · rw [if_pos h6] at hf
            refine Rt.path ok_Context_areApart 11 [1] rfl ⟨(ix_60 h5), ⟨(am_cmpIn _ _), (am_cmp0.mpr h6)⟩, trivial⟩ ?_
            refine Rt.path ok_Context_areApart 2 [] rfl trivial ?_
            exact Rt.weak ((ih _ _ _ _ _ _) hf) ⟨rfl, rfl, rfl, rfl, trivial⟩
          · rw [if_neg h6] at hf
            refine Rt.path ok_Context_areApart 11 [0] rfl ⟨(ix_60 h5), ⟨(am_cmpIn _ _), (fun q => h6 (am_cmp0.mp q))⟩, trivial⟩ ?_
            cases hf
            refine Rt.path ok_Context_areApart 1 [] rfl trivial ?_
            exact Rt.retZ ok_Context_areApart (show (0 : Int) = 0 ∨ (0 : Int) = 1 by decide) rfl rfl
    · rw [if_neg h2] at hf
      refine Rt.path ok_Context_areApart 3 [1] rfl ⟨⟨⟨h1, (show ir 60 by decide)⟩, (Int.not_lt.mp h2)⟩, trivial⟩ ?_
      cases hf
      refine Rt.path ok_Context_areApart 1 [] rfl trivial ?_
      exact Rt.retZ ok_Context_areApart (show (1 : Int) = 0 ∨ (1 : Int) = 1 by decide) rfl rfl
def f_Context_areApart_27 (a1 : Int64) (a3 : Int64) (g : G2) : Option (Int × G2) :=
  l_Context_areApart_27 20000 0 a1 a3 0 g
set_option maxHeartbeats 4000000 in
set_option maxRecDepth 100000 in
theorem c_Context_areApart_27 (d : Nat) (a1 : Int64) (a3 : Int64) (g : G2) (r : Int) (g' : G2) (hf : f_Context_areApart_27 a1 a3 g = some (r, g')) : C2 d m_Context_areApart [vR 27, vL a1, vL a3] g (some (vI r)) g' := by
  unfold f_Context_areApart_27 at hf
  refine C2.of rfl rfl rfl (Nat.le_of_ble_eq_true rfl) ?_
  refine Rt.path ok_Context_areApart 2 [] rfl trivial ?_
  exact Rt.weak ((rl_Context_areApart_27 d _ _ _ _ _ _ _) hf) ⟨rfl, rfl, rfl, rfl, trivial⟩
def b_Proof_keepsApart_34_0 (L : Nat → Int → Int → G2 → Option (Int × G2)) (i1 : Int) (i2 : Int) (g : G2) : Option (Int × G2) :=
  if 0 ≤ i1 ∧ i1 < 40 then
  if ir i2 then
  if ir (rA g 18 i1) then
  if i2 < (rA g 18 i1) then
    (f_Assertions_firstOfPair_17 i1 i2 g).bind fun q5 =>
    if 0 ≤ q5.1 ∧ q5.1 < 60 then
    (f_Assertions_secondOfPair_17 i1 i2 q5.2).bind fun q7 =>
    if 0 ≤ q7.1 ∧ q7.1 < 60 then
    if 0 ≤ (rA q5.2 42 q5.1) ∧ (rA q5.2 42 q5.1) < 16 then
    if 0 ≤ (rA q7.2 42 q7.1) ∧ (rA q7.2 42 q7.1) < 16 then
    (f_Context_areApart_27 (rB q7.2 37 (rA q5.2 42 q5.1)) (rB q7.2 37 (rA q7.2 42 q7.1)) q7.2).bind fun q11 =>
    if ir q11.1 then
    if q11.1 = 0 then
      some (0, q11.2)
    else
      L 0 i1 (i2 + 1) q11.2
    else none
    else none
    else none
    else none
    else none
  else
    some (1, g)
  else none
  else none
  else none
def l_Proof_keepsApart_34 : Nat → Nat → Int → Int → G2 → Option (Int × G2)
  | 0 => fun _ _ _ _ => none
  | n + 1 => fun t i1 i2 g => match t with
    | _ => b_Proof_keepsApart_34_0 (l_Proof_keepsApart_34 n) i1 i2 g
set_option maxHeartbeats 4000000 in
set_option maxRecDepth 100000 in
theorem rl_Proof_keepsApart_34 (d : Nat) : ∀ (n : Nat) (i1 : Int) (i2 : Int) (g : G2) (r : Int) (g' : G2), (l_Proof_keepsApart_34 n 0 i1 i2 g = some (r, g') → Rt (d + 2) m_Proof_keepsApart 2 [some (vR 34), some (vI i1), some (vI i2), none, none] [] g (some (vI r)) g') := by
  intro n
  induction n with
  | zero => intro i1 i2 g r g'; exact fun hf => by cases hf
  | succ n ih =>
    intro i1 i2 g r g'
    intro hf
    replace hf : b_Proof_keepsApart_34_0 (l_Proof_keepsApart_34 n) i1 i2 g = some (r, g') := hf
    unfold b_Proof_keepsApart_34_0 at hf
    have h1 : 0 ≤ i1 ∧ i1 < 40 := by
      by_cases q : 0 ≤ i1 ∧ i1 < 40
      · exact q
      · rw [if_neg q] at hf; cases hf
    rw [if_pos h1] at hf
    have h2 : ir i2 := by
      by_cases q : ir i2
      · exact q
      · rw [if_neg q] at hf; cases hf
    rw [if_pos h2] at hf
    have h3 : ir (rA g 18 i1) := by
      by_cases q : ir (rA g 18 i1)
      · exact q
      · rw [if_neg q] at hf; cases hf
    rw [if_pos h3] at hf
    by_cases h4 : i2 < (rA g 18 i1)
    · rw [if_pos h4] at hf
      refine Rt.path ok_Proof_keepsApart 7 [0] rfl ⟨(ix_40 h1), ⟨⟨h2, h3⟩, h4⟩, trivial⟩ ?_
      obtain ⟨q5, e5, hf⟩ := Option.bind_eq_some_iff.mp hf
      refine Rt.path ok_Proof_keepsApart 6 [] rfl trivial ?_
      refine Rt.callV ok_Proof_keepsApart rfl ml_Proof_143 [vI _, vI _] cf_Assertions_firstOfPair rfl rfl (c_Assertions_firstOfPair_17 d _ _ _ _ _ e5) (Nat.le_of_ble_eq_true rfl) ?_
      have h6 : 0 ≤ q5.1 ∧ q5.1 < 60 := by
        by_cases q : 0 ≤ q5.1 ∧ q5.1 < 60
        · exact q
        · rw [if_neg q] at hf; cases hf
      rw [if_pos h6] at hf
      obtain ⟨q7, e7, hf⟩ := Option.bind_eq_some_iff.mp hf
      refine Rt.path ok_Proof_keepsApart 8 [] rfl ⟨(ix_60 h6), trivial⟩ ?_
      refine Rt.callV ok_Proof_keepsApart rfl ml_Proof_146 [vI _, vI _] cf_Assertions_secondOfPair rfl rfl (c_Assertions_secondOfPair_17 d _ _ _ _ _ e7) (Nat.le_of_ble_eq_true rfl) ?_
      have h8 : 0 ≤ q7.1 ∧ q7.1 < 60 := by
        by_cases q : 0 ≤ q7.1 ∧ q7.1 < 60
        · exact q
        · rw [if_neg q] at hf; cases hf
      rw [if_pos h8] at hf
      have h9 : 0 ≤ (rA q5.2 42 q5.1) ∧ (rA q5.2 42 q5.1) < 16 := by
        by_cases q : 0 ≤ (rA q5.2 42 q5.1) ∧ (rA q5.2 42 q5.1) < 16
        · exact q
        · rw [if_neg q] at hf; cases hf
      rw [if_pos h9] at hf
      have h10 : 0 ≤ (rA q7.2 42 q7.1) ∧ (rA q7.2 42 q7.1) < 16 := by
        by_cases q : 0 ≤ (rA q7.2 42 q7.1) ∧ (rA q7.2 42 q7.1) < 16
        · exact q
        · rw [if_neg q] at hf; cases hf
      rw [if_pos h10] at hf
      obtain ⟨q11, e11, hf⟩ := Option.bind_eq_some_iff.mp hf
      refine Rt.path ok_Proof_keepsApart 14 [] rfl ⟨(ix_60 h8), (ix_16 h9), (ix_16 h10), trivial⟩ ?_
      refine Rt.callV ok_Proof_keepsApart rfl ml_Proof_152 [vL _, vL _] cf_Context_areApart rfl rfl (c_Context_areApart_27 (d + 1) _ _ _ _ _ e11) (Nat.le_of_ble_eq_true rfl) ?_
      have h12 : ir q11.1 := by
        by_cases q : ir q11.1
        · exact q
        · rw [if_neg q] at hf; cases hf
      rw [if_pos h12] at hf
      by_cases h13 : q11.1 = 0
      · rw [if_pos h13] at hf
        refine Rt.path ok_Proof_keepsApart 1 [0] rfl ⟨⟨h12, h13⟩, trivial⟩ ?_
        cases hf
        refine Rt.path ok_Proof_keepsApart 1 [] rfl trivial ?_
        exact Rt.retZ ok_Proof_keepsApart (show (0 : Int) = 0 ∨ (0 : Int) = 1 by decide) rfl rfl
      · rw [if_neg h13] at hf
        refine Rt.path ok_Proof_keepsApart 1 [1] rfl ⟨⟨h12, h13⟩, trivial⟩ ?_
        refine Rt.path ok_Proof_keepsApart 2 [] rfl trivial ?_
        exact Rt.weak ((ih _ _ _ _ _) hf) ⟨rfl, rfl, rfl, trivial⟩
    · rw [if_neg h4] at hf
      refine Rt.path ok_Proof_keepsApart 7 [1] rfl ⟨(ix_40 h1), ⟨⟨h2, h3⟩, (Int.not_lt.mp h4)⟩, trivial⟩ ?_
      cases hf
      refine Rt.path ok_Proof_keepsApart 1 [] rfl trivial ?_
      exact Rt.retZ ok_Proof_keepsApart (show (1 : Int) = 0 ∨ (1 : Int) = 1 by decide) rfl rfl
def f_Proof_keepsApart_34 (a1 : Int) (g : G2) : Option (Int × G2) :=
  l_Proof_keepsApart_34 20000 0 a1 0 g
set_option maxHeartbeats 4000000 in
set_option maxRecDepth 100000 in
theorem c_Proof_keepsApart_34 (d : Nat) (a1 : Int) (g : G2) (r : Int) (g' : G2) (hf : f_Proof_keepsApart_34 a1 g = some (r, g')) : C2 (d + 2) m_Proof_keepsApart [vR 34, vI a1] g (some (vI r)) g' := by
  unfold f_Proof_keepsApart_34 at hf
  refine C2.of rfl rfl rfl (Nat.le_of_ble_eq_true rfl) ?_
  refine Rt.path ok_Proof_keepsApart 2 [] rfl trivial ?_
  exact Rt.weak ((rl_Proof_keepsApart_34 d _ _ _ _ _ _) hf) ⟨rfl, rfl, rfl, trivial⟩
def f_Assertions_noteUse_17 (a1 : Int) (g : G2) : Option (G2) :=
  if 0 ≤ (((rI g 16 8) * 40) + a1) ∧ (((rI g 16 8) * 40) + a1) < 1600 then
  if 0 ≤ (rI g 16 8) ∧ (rI g 16 8) < 40 then
  if ir (rA g 24 (rI g 16 8)) then
  if (rA g 24 (rI g 16 8)) = 0 then
    some (gA (gA g 22 (((rI g 16 8) * 40) + a1) ((rA g 22 (((rI g 16 8) * 40) + a1)) + 1)) 24 (rI g 16 8) 0)
  else
    if 0 ≤ a1 ∧ a1 < 40 then
    if ir (rA g 24 a1) then
    if (rA g 24 a1) = 0 then
      some (gA (gA g 22 (((rI g 16 8) * 40) + a1) ((rA g 22 (((rI g 16 8) * 40) + a1)) + 1)) 24 (rI g 16 8) 0)
    else
      some (gA (gA g 22 (((rI g 16 8) * 40) + a1) ((rA g 22 (((rI g 16 8) * 40) + a1)) + 1)) 24 (rI g 16 8) 1)
    else none
    else none
  else none
  else none
  else none
set_option maxHeartbeats 4000000 in
set_option maxRecDepth 100000 in
theorem c_Assertions_noteUse_17 (d : Nat) (a1 : Int) (g : G2) (g' : G2) (hf : f_Assertions_noteUse_17 a1 g = some g') : C2 d m_Assertions_noteUse [vR 17, vI a1] g none g' := by
  unfold f_Assertions_noteUse_17 at hf
  refine C2.of rfl rfl rfl (Nat.le_of_ble_eq_true rfl) ?_
  have h1 : 0 ≤ (((rI g 16 8) * 40) + a1) ∧ (((rI g 16 8) * 40) + a1) < 1600 := by
    by_cases q : 0 ≤ (((rI g 16 8) * 40) + a1) ∧ (((rI g 16 8) * 40) + a1) < 1600
    · exact q
    · rw [if_neg q] at hf; cases hf
  rw [if_pos h1] at hf
  have h2 : 0 ≤ (rI g 16 8) ∧ (rI g 16 8) < 40 := by
    by_cases q : 0 ≤ (rI g 16 8) ∧ (rI g 16 8) < 40
    · exact q
    · rw [if_neg q] at hf; cases hf
  rw [if_pos h2] at hf
  have h3 : ir (rA g 24 (rI g 16 8)) := by
    by_cases q : ir (rA g 24 (rI g 16 8))
    · exact q
    · rw [if_neg q] at hf; cases hf
  rw [if_pos h3] at hf
  by_cases h4 : (rA g 24 (rI g 16 8)) = 0
  · rw [if_pos h4] at hf
    refine Rt.path ok_Assertions_noteUse 23 [1] rfl ⟨(ix_1600 h1), (ix_1600 h1), (ix_40 h2), ⟨h3, h4⟩, trivial⟩ ?_
    cases hf
    refine Rt.path ok_Assertions_noteUse 2 [] rfl ⟨⟨(ix_40 h2), (show (0 : Int) = 0 ∨ (0 : Int) = 1 by decide)⟩, trivial⟩ ?_
    exact Rt.retV ok_Assertions_noteUse rfl rfl
  · rw [if_neg h4] at hf
    refine Rt.path ok_Assertions_noteUse 23 [0] rfl ⟨(ix_1600 h1), (ix_1600 h1), (ix_40 h2), ⟨h3, h4⟩, trivial⟩ ?_
    have h5 : 0 ≤ a1 ∧ a1 < 40 := by
      by_cases q : 0 ≤ a1 ∧ a1 < 40
      · exact q
      · rw [if_neg q] at hf; cases hf
    rw [if_pos h5] at hf
    have h6 : ir (rA g 24 a1) := by
      by_cases q : ir (rA g 24 a1)
      · exact q
      · rw [if_neg q] at hf; cases hf
    rw [if_pos h6] at hf
    by_cases h7 : (rA g 24 a1) = 0
    · rw [if_pos h7] at hf
      refine Rt.path ok_Assertions_noteUse 5 [1] rfl ⟨(ix_40 h5), ⟨h6, h7⟩, trivial⟩ ?_
      cases hf
      refine Rt.path ok_Assertions_noteUse 2 [] rfl ⟨⟨(ix_40 h2), (show (0 : Int) = 0 ∨ (0 : Int) = 1 by decide)⟩, trivial⟩ ?_
      exact Rt.retV ok_Assertions_noteUse rfl rfl
    · rw [if_neg h7] at hf
      refine Rt.path ok_Assertions_noteUse 5 [0] rfl ⟨(ix_40 h5), ⟨h6, h7⟩, trivial⟩ ?_
      cases hf
      refine Rt.path ok_Assertions_noteUse 3 [] rfl ⟨⟨(ix_40 h2), (show (1 : Int) = 0 ∨ (1 : Int) = 1 by decide)⟩, trivial⟩ ?_
      exact Rt.retV ok_Assertions_noteUse rfl rfl
def f_Expressions_isFull_35  (g : G2) : Option (Int × G2) :=
  if ir (rI g 34 4) then
  if (rI g 34 4) < 16 then
    some (0, g)
  else
    some (1, g)
  else none
set_option maxHeartbeats 4000000 in
set_option maxRecDepth 100000 in
theorem c_Expressions_isFull_35 (d : Nat)  (g : G2) (r : Int) (g' : G2) (hf : f_Expressions_isFull_35 g = some (r, g')) : C2 d m_Expressions_isFull [vR 35] g (some (vI r)) g' := by
  unfold f_Expressions_isFull_35 at hf
  refine C2.of rfl rfl rfl (Nat.le_of_ble_eq_true rfl) ?_
  have h1 : ir (rI g 34 4) := by
    by_cases q : ir (rI g 34 4)
    · exact q
    · rw [if_neg q] at hf; cases hf
  rw [if_pos h1] at hf
  by_cases h2 : (rI g 34 4) < 16
  · rw [if_pos h2] at hf
    refine Rt.path ok_Expressions_isFull 5 [1] rfl ⟨⟨⟨h1, (show ir 16 by decide)⟩, h2⟩, trivial⟩ ?_
    cases hf
    refine Rt.path ok_Expressions_isFull 1 [] rfl trivial ?_
    exact Rt.retZ ok_Expressions_isFull (show (0 : Int) = 0 ∨ (0 : Int) = 1 by decide) rfl rfl
  · rw [if_neg h2] at hf
    refine Rt.path ok_Expressions_isFull 5 [0] rfl ⟨⟨⟨h1, (show ir 16 by decide)⟩, (Int.not_lt.mp h2)⟩, trivial⟩ ?_
    cases hf
    refine Rt.path ok_Expressions_isFull 2 [] rfl trivial ?_
    exact Rt.retZ ok_Expressions_isFull (show (1 : Int) = 0 ∨ (1 : Int) = 1 by decide) rfl rfl
def f_Expressions_addCopy_35_39 (a2 : Int) (g : G2) : Option (G2) :=
  if 0 ≤ a2 ∧ a2 < 1 then
  if 0 ≤ (a2 * 24) ∧ 0 ≤ ((rI g 34 4) * 24) ∧ 0 ≤ (rA g 40 a2) ∧ (a2 * 24) + (rA g 40 a2) ≤ 24 ∧ ((rI g 34 4) * 24) + (rA g 40 a2) ≤ 384 then
  if 0 ≤ (rI g 34 4) ∧ (rI g 34 4) < 16 then
  some (gI (gB (gA (gC g 39 35 (a2 * 24) ((rI g 34 4) * 24) (rA g 40 a2)) 36 (rI g 34 4) (rA g 40 a2)) 37 (rI g 34 4) (rB g 41 a2)) 34 4 ((rI g 34 4) + 1))
  else none
  else none
  else none
set_option maxHeartbeats 4000000 in
set_option maxRecDepth 100000 in
theorem c_Expressions_addCopy_35_39 (d : Nat) (a2 : Int) (g : G2) (g' : G2) (hf : f_Expressions_addCopy_35_39 a2 g = some g') : C2 d m_Expressions_addCopy [vR 35, vR 39, vI a2] g none g' := by
  unfold f_Expressions_addCopy_35_39 at hf
  refine C2.of rfl rfl rfl (Nat.le_of_ble_eq_true rfl) ?_
  have h1 : 0 ≤ a2 ∧ a2 < 1 := by
    by_cases q : 0 ≤ a2 ∧ a2 < 1
    · exact q
    · rw [if_neg q] at hf; cases hf
  rw [if_pos h1] at hf
  have h2 : 0 ≤ (a2 * 24) ∧ 0 ≤ ((rI g 34 4) * 24) ∧ 0 ≤ (rA g 40 a2) ∧ (a2 * 24) + (rA g 40 a2) ≤ 24 ∧ ((rI g 34 4) * 24) + (rA g 40 a2) ≤ 384 := by
    by_cases q : 0 ≤ (a2 * 24) ∧ 0 ≤ ((rI g 34 4) * 24) ∧ 0 ≤ (rA g 40 a2) ∧ (a2 * 24) + (rA g 40 a2) ≤ 24 ∧ ((rI g 34 4) * 24) + (rA g 40 a2) ≤ 384
    · exact q
    · rw [if_neg q] at hf; cases hf
  rw [if_pos h2] at hf
  have h3 : 0 ≤ (rI g 34 4) ∧ (rI g 34 4) < 16 := by
    by_cases q : 0 ≤ (rI g 34 4) ∧ (rI g 34 4) < 16
    · exact q
    · rw [if_neg q] at hf; cases hf
  rw [if_pos h3] at hf
  cases hf
  refine Rt.path ok_Expressions_addCopy 40 [] rfl ⟨(ix_1 h1), ⟨(cp_24_384 h2), Nat.le_of_ble_eq_true rfl⟩, (ix_1 h1), (ix_16 h3), (ix_1 h1), (ix_16 h3), trivial⟩ ?_
  exact Rt.retV ok_Expressions_addCopy rfl rfl
def f_Assertions_noteStep_17 (a1 : Int) (g : G2) : Option (G2) :=
  if 0 ≤ (rI g 16 8) ∧ (rI g 16 8) < 40 then
  if ir (rA g 21 (rI g 16 8)) then
  if ir a1 then
  some (gA (gA g 20 (rI g 16 8) ((rA g 20 (rI g 16 8)) + 1)) 21 (rI g 16 8) (am_max (rA g 21 (rI g 16 8)) a1))
  else none
  else none
  else none
set_option maxHeartbeats 4000000 in
set_option maxRecDepth 100000 in
theorem c_Assertions_noteStep_17 (d : Nat) (a1 : Int) (g : G2) (g' : G2) (hf : f_Assertions_noteStep_17 a1 g = some g') : C2 d m_Assertions_noteStep [vR 17, vI a1] g none g' := by
  unfold f_Assertions_noteStep_17 at hf
  refine C2.of rfl rfl rfl (Nat.le_of_ble_eq_true rfl) ?_
  have h1 : 0 ≤ (rI g 16 8) ∧ (rI g 16 8) < 40 := by
    by_cases q : 0 ≤ (rI g 16 8) ∧ (rI g 16 8) < 40
    · exact q
    · rw [if_neg q] at hf; cases hf
  rw [if_pos h1] at hf
  have h2 : ir (rA g 21 (rI g 16 8)) := by
    by_cases q : ir (rA g 21 (rI g 16 8))
    · exact q
    · rw [if_neg q] at hf; cases hf
  rw [if_pos h2] at hf
  have h3 : ir a1 := by
    by_cases q : ir a1
    · exact q
    · rw [if_neg q] at hf; cases hf
  rw [if_pos h3] at hf
  cases hf
  refine Rt.path ok_Assertions_noteStep 21 [] rfl ⟨(ix_40 h1), (ix_40 h1), (ix_40 h1), ⟨h2, h3, Nat.le_of_ble_eq_true rfl⟩, (ix_40 h1), trivial⟩ ?_
  exact Rt.retV ok_Assertions_noteStep rfl rfl
