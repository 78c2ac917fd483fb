def f_M_proved_50 (a1 : Int) (g : G2) : Option (Int × G2) :=
  (f_M_isAssertion_50 a1 g).bind fun q1 =>
  if ir q1.1 then
  if q1.1 = 0 then
    some (0, q1.2)
  else
    if 0 ≤ a1 ∧ a1 < ((41 : Nat) : Int) ∧ ((41 : Nat) : Int) < 2147483648 then
    if ir (rA q1.2 78 a1) then
    if (rA q1.2 78 a1) = 0 then
      some (0, q1.2)
    else
      some (1, q1.2)
    else none
    else none
  else none
set_option maxHeartbeats 4000000 in
set_option maxRecDepth 100000 in
theorem c_M_proved_50 (d : Nat) (a1 : Int) (g : G2) (r : Int) (g' : G2) (hf : f_M_proved_50 a1 g = some (r, g')) : C2 (d + 1) m_M_proved [vR 50, vI a1] g (some (vI r)) g' := by
  unfold f_M_proved_50 at hf
  refine C2.of rfl rfl rfl (Nat.le_of_ble_eq_true rfl) ?_
  obtain ⟨q1, e1, hf⟩ := Option.bind_eq_some_iff.mp hf
  refine Rt.path ok_M_proved 2 [] rfl trivial ?_
  refine Rt.callV ok_M_proved rfl ml_M_365 [vI _] cf_M_isAssertion rfl rfl (c_M_isAssertion_50 d _ _ _ _ e1) (Nat.le_of_ble_eq_true rfl) ?_
  have h2 : ir q1.1 := by
    by_cases q : ir q1.1
    · exact q
    · rw [if_neg q] at hf; cases hf
  rw [if_pos h2] at hf
  by_cases h3 : q1.1 = 0
  · rw [if_pos h3] at hf
    refine Rt.path ok_M_proved 1 [1] rfl ⟨⟨h2, h3⟩, trivial⟩ ?_
    cases hf
    refine Rt.path ok_M_proved 1 [] rfl trivial ?_
    exact Rt.retZ ok_M_proved (show (0 : Int) = 0 ∨ (0 : Int) = 1 by decide) rfl rfl
  · rw [if_neg h3] at hf
    refine Rt.path ok_M_proved 1 [0] rfl ⟨⟨h2, h3⟩, trivial⟩ ?_
    have h4 : 0 ≤ a1 ∧ a1 < ((41 : Nat) : Int) ∧ ((41 : Nat) : Int) < 2147483648 := by
      by_cases q : 0 ≤ a1 ∧ a1 < ((41 : Nat) : Int) ∧ ((41 : Nat) : Int) < 2147483648
      · exact q
      · rw [if_neg q] at hf; cases hf
    rw [if_pos h4] at hf
    have h5 : ir (rA q1.2 78 a1) := by
      by_cases q : ir (rA q1.2 78 a1)
      · exact q
      · rw [if_neg q] at hf; cases hf
    rw [if_pos h5] at hf
    by_cases h6 : (rA q1.2 78 a1) = 0
    · rw [if_pos h6] at hf
      refine Rt.path ok_M_proved 5 [1] rfl ⟨h4, ⟨h5, h6⟩, trivial⟩ ?_
      cases hf
      refine Rt.path ok_M_proved 1 [] rfl trivial ?_
      exact Rt.retZ ok_M_proved (show (0 : Int) = 0 ∨ (0 : Int) = 1 by decide) rfl rfl
    · rw [if_neg h6] at hf
      refine Rt.path ok_M_proved 5 [0] rfl ⟨h4, ⟨h5, h6⟩, trivial⟩ ?_
      cases hf
      refine Rt.path ok_M_proved 2 [] rfl trivial ?_
      exact Rt.retZ ok_M_proved (show (1 : Int) = 0 ∨ (1 : Int) = 1 by decide) rfl rfl
