def f_Proof_stepWith_34 (a1 : Int) (g : G2) : Option (Int × G2) :=
  if ir (rI g 33 7) then
  if (rI g 33 7) = 0 then
    bd (f_Statements_isHypothesis_8 a1 g) fun r3 g3 =>
    if ir r3 then
    if r3 = 0 then
      if 0 ≤ a1 ∧ a1 < 40 then
      bd (f_J_bitCount (rB g3 14 a1) g3) fun r7 g7 =>
      if ir ((rI g3 34 4) - r7) then
      if ((rI g3 34 4) - r7) < 0 then
        some ((-9), g7)
      else
        bd (f_Proof_bind_34 a1 ((rI g3 34 4) - r7) g7) fun r10 g10 =>
        if ir r10 then
        if r10 = 0 then
          some ((-10), g10)
        else
          bd (f_Proof_keepsApart_34 (rA g10 15 a1) g10) fun r13 g13 =>
          if ir r13 then
          if r13 = 0 then
            some ((-11), g13)
          else
            bd (f_Proof_replaceIn_34 a1 g13) fun r16 g16 =>
            if ir r16 then
            if r16 = 0 then
              some ((-7), g16)
            else
              (f_Assertions_noteUse_17 (rA g16 15 a1) (gI g16 34 4 ((rI g3 34 4) - r7))).bind fun g19 =>
              bd (f_Proof_put_34_39 0 g19) fun r20 g20 =>
              some (r20, g20)
            else none
          else none
        else none
      else none
      else none
    else
      bd (f_Proof_put_34_11 a1 g3) fun r21 g21 =>
      some (r21, g21)
    else none
  else
    some (0, g)
  else none
set_option maxHeartbeats 4000000 in
set_option maxRecDepth 100000 in
theorem c_Proof_stepWith_34 (d : Nat) (a1 : Int) (g : G2) (r : Int) (g' : G2) (hf : f_Proof_stepWith_34 a1 g = some (r, g')) : C2 (d + 3) m_Proof_stepWith [vR 34, vI a1] g (some (vI r)) g' := by
  unfold f_Proof_stepWith_34 at hf
  refine C2.of rfl rfl rfl (Nat.le_of_ble_eq_true rfl) ?_
  have h1 : ir (rI g 33 7) := by
    by_cases q : ir (rI g 33 7)
    · exact q
    · rw [if_neg q] at hf; cases hf
  rw [if_pos h1] at hf
  by_cases h2 : (rI g 33 7) = 0
  · rw [if_pos h2] at hf
    refine Rt.path ok_Proof_stepWith 3 [1] rfl ⟨⟨h1, h2⟩, trivial⟩ ?_
    obtain ⟨r3, g3, e3, hf⟩ := bd_inv hf
    refine Rt.path ok_Proof_stepWith 3 [] rfl trivial ?_
    refine Rt.callV ok_Proof_stepWith rfl ml_Proof_58 [vI _] cf_Statements_isHypothesis rfl rfl (c_Statements_isHypothesis_8 (d + 2) _ _ _ _ e3) (Nat.le_of_ble_eq_true rfl) ?_
    have h4 : ir r3 := by
      by_cases q : ir r3
      · exact q
      · rw [if_neg q] at hf; cases hf
    rw [if_pos h4] at hf
    by_cases h5 : r3 = 0
    · rw [if_pos h5] at hf
      refine Rt.path ok_Proof_stepWith 1 [1] rfl ⟨⟨h4, h5⟩, trivial⟩ ?_
      have h6 : 0 ≤ a1 ∧ a1 < 40 := by
        by_cases q : 0 ≤ a1 ∧ a1 < 40
        · exact q
        · rw [if_neg q] at hf; cases hf
      rw [if_pos h6] at hf
      obtain ⟨r7, g7, e7, hf⟩ := bd_inv hf
      refine Rt.path ok_Proof_stepWith 8 [] rfl ⟨(ix_40 h6), trivial⟩ ?_
      refine Rt.callS ok_Proof_stepWith rfl ml_Proof_75 [vL _] cf_J_bitCount (c_J_bitCount (d + 2) _ _ _ _ e7) (Nat.le_of_ble_eq_true rfl) ?_
      have h8 : ir ((rI g3 34 4) - r7) := by
        by_cases q : ir ((rI g3 34 4) - r7)
        · exact q
        · rw [if_neg q] at hf; cases hf
      rw [if_pos h8] at hf
      by_cases h9 : ((rI g3 34 4) - r7) < 0
      · rw [if_pos h9] at hf
        refine Rt.path ok_Proof_stepWith 4 [0] rfl ⟨⟨h8, h9⟩, trivial⟩ ?_
        cases hf
        refine Rt.path ok_Proof_stepWith 1 [] rfl trivial ?_
        exact Rt.retI ok_Proof_stepWith rfl rfl
      · rw [if_neg h9] at hf
        refine Rt.path ok_Proof_stepWith 4 [1] rfl ⟨⟨h8, (Int.not_lt.mp h9)⟩, trivial⟩ ?_
        obtain ⟨r10, g10, e10, hf⟩ := bd_inv hf
        refine Rt.path ok_Proof_stepWith 3 [] rfl trivial ?_
        refine Rt.callV ok_Proof_stepWith rfl ml_Proof_81 [vI _, vI _] cf_Proof_bind rfl rfl (c_Proof_bind_34 d _ _ _ _ _ e10) (Nat.le_of_ble_eq_true rfl) ?_
        have h11 : ir r10 := by
          by_cases q : ir r10
          · exact q
          · rw [if_neg q] at hf; cases hf
        rw [if_pos h11] at hf
        by_cases h12 : r10 = 0
        · rw [if_pos h12] at hf
          refine Rt.path ok_Proof_stepWith 1 [0] rfl ⟨⟨h11, h12⟩, trivial⟩ ?_
          cases hf
          refine Rt.path ok_Proof_stepWith 1 [] rfl trivial ?_
          exact Rt.retI ok_Proof_stepWith rfl rfl
        · rw [if_neg h12] at hf
          refine Rt.path ok_Proof_stepWith 1 [1] rfl ⟨⟨h11, h12⟩, trivial⟩ ?_
          obtain ⟨r13, g13, e13, hf⟩ := bd_inv hf
          refine Rt.path ok_Proof_stepWith 6 [] rfl ⟨(ix_40 h6), trivial⟩ ?_
          refine Rt.callV ok_Proof_stepWith rfl ml_Proof_87 [vI _] cf_Proof_keepsApart rfl rfl (c_Proof_keepsApart_34 d _ _ _ _ e13) (Nat.le_of_ble_eq_true rfl) ?_
          have h14 : ir r13 := by
            by_cases q : ir r13
            · exact q
            · rw [if_neg q] at hf; cases hf
          rw [if_pos h14] at hf
          by_cases h15 : r13 = 0
          · rw [if_pos h15] at hf
            refine Rt.path ok_Proof_stepWith 1 [0] rfl ⟨⟨h14, h15⟩, trivial⟩ ?_
            cases hf
            refine Rt.path ok_Proof_stepWith 1 [] rfl trivial ?_
            exact Rt.retI ok_Proof_stepWith rfl rfl
          · rw [if_neg h15] at hf
            refine Rt.path ok_Proof_stepWith 1 [1] rfl ⟨⟨h14, h15⟩, trivial⟩ ?_
            obtain ⟨r16, g16, e16, hf⟩ := bd_inv hf
            refine Rt.path ok_Proof_stepWith 2 [] rfl trivial ?_
            refine Rt.callV ok_Proof_stepWith rfl ml_Proof_90 [vI _] cf_Proof_replaceIn rfl rfl (c_Proof_replaceIn_34 (d + 1) _ _ _ _ e16) (Nat.le_of_ble_eq_true rfl) ?_
            have h17 : ir r16 := by
              by_cases q : ir r16
              · exact q
              · rw [if_neg q] at hf; cases hf
            rw [if_pos h17] at hf
            by_cases h18 : r16 = 0
            · rw [if_pos h18] at hf
              refine Rt.path ok_Proof_stepWith 1 [0] rfl ⟨⟨h17, h18⟩, trivial⟩ ?_
              cases hf
              refine Rt.path ok_Proof_stepWith 1 [] rfl trivial ?_
              exact Rt.retI ok_Proof_stepWith rfl rfl
            · rw [if_neg h18] at hf
              refine Rt.path ok_Proof_stepWith 1 [1] rfl ⟨⟨h17, h18⟩, trivial⟩ ?_
              obtain ⟨g19, e19, hf⟩ := Option.bind_eq_some_iff.mp hf
              refine Rt.path ok_Proof_stepWith 11 [] rfl ⟨(ix_40 h6), trivial⟩ ?_
              refine Rt.callV ok_Proof_stepWith rfl ml_Proof_93 [vI _] cf_Assertions_noteUse rfl rfl (c_Assertions_noteUse_17 (d + 2) _ _ _ e19) (Nat.le_of_ble_eq_true rfl) ?_
              obtain ⟨r20, g20, e20, hf⟩ := bd_inv hf
              refine Rt.path ok_Proof_stepWith 4 [] rfl trivial ?_
              refine Rt.callV ok_Proof_stepWith rfl ml_Proof_67 [vR 39, vI _] cf_Proof_put rfl rfl (c_Proof_put_34_39 (d + 1) _ _ _ _ e20) (Nat.le_of_ble_eq_true rfl) ?_
              cases hf
              exact Rt.retI ok_Proof_stepWith rfl rfl
    · rw [if_neg h5] at hf
      refine Rt.path ok_Proof_stepWith 1 [0] rfl ⟨⟨h4, h5⟩, trivial⟩ ?_
      obtain ⟨r21, g21, e21, hf⟩ := bd_inv hf
      refine Rt.path ok_Proof_stepWith 5 [] rfl trivial ?_
      refine Rt.callV ok_Proof_stepWith rfl ml_Proof_67 [vR 11, vI _] cf_Proof_put rfl rfl (c_Proof_put_34_11 (d + 1) _ _ _ _ e21) (Nat.le_of_ble_eq_true rfl) ?_
      cases hf
      exact Rt.retI ok_Proof_stepWith rfl rfl
  · rw [if_neg h2] at hf
    refine Rt.path ok_Proof_stepWith 3 [0] rfl ⟨⟨h1, h2⟩, trivial⟩ ?_
    cases hf
    refine Rt.path ok_Proof_stepWith 1 [] rfl trivial ?_
    exact Rt.retI ok_Proof_stepWith rfl rfl
def f_Reader_takeStep_26 (a1 : Int64) (g : G2) : Option (Int × G2) :=
  if a1 = (Int64.ofNat 63) then
    (f_Proof_leaveGap_34 g).bind fun g2 =>
    some (0, g2)
  else
    bd (f_Reader_findUsable_26 a1 g) fun r3 g3 =>
    if ir r3 then
    if r3 = (-1) then
      some ((-8), g3)
    else
      bd (f_Proof_stepWith_34 r3 g3) fun r6 g6 =>
      some (r6, g6)
    else none
set_option maxHeartbeats 4000000 in
set_option maxRecDepth 100000 in
theorem c_Reader_takeStep_26 (d : Nat) (a1 : Int64) (g : G2) (r : Int) (g' : G2) (hf : f_Reader_takeStep_26 a1 g = some (r, g')) : C2 (d + 4) m_Reader_takeStep [vR 26, vL a1] g (some (vI r)) g' := by
  unfold f_Reader_takeStep_26 at hf
  refine C2.of rfl rfl rfl (Nat.le_of_ble_eq_true rfl) ?_
  by_cases h1 : a1 = (Int64.ofNat 63)
  · rw [if_pos h1] at hf
    refine Rt.path ok_Reader_takeStep 4 [0] rfl ⟨⟨(am_cmpIn _ _), (am_cmp0.mpr h1)⟩, trivial⟩ ?_
    obtain ⟨g2, e2, hf⟩ := Option.bind_eq_some_iff.mp hf
    refine Rt.path ok_Reader_takeStep 2 [] rfl trivial ?_
    refine Rt.callV ok_Reader_takeStep rfl ml_Reader_257 [] cf_Proof_leaveGap rfl rfl (c_Proof_leaveGap_34 (d + 2) _ _ e2) (Nat.le_of_ble_eq_true rfl) ?_
    cases hf
    refine Rt.path ok_Reader_takeStep 1 [] rfl trivial ?_
    exact Rt.retI ok_Reader_takeStep rfl rfl
  · rw [if_neg h1] at hf
    refine Rt.path ok_Reader_takeStep 4 [1] rfl ⟨⟨(am_cmpIn _ _), (fun q => h1 (am_cmp0.mp q))⟩, trivial⟩ ?_
    obtain ⟨r3, g3, e3, hf⟩ := bd_inv hf
    refine Rt.path ok_Reader_takeStep 2 [] rfl trivial ?_
    refine Rt.callV ok_Reader_takeStep rfl ml_Reader_260 [vL _] cf_Reader_findUsable rfl rfl (c_Reader_findUsable_26 (d + 2) _ _ _ _ e3) (Nat.le_of_ble_eq_true rfl) ?_
    have h4 : ir r3 := by
      by_cases q : ir r3
      · exact q
      · rw [if_neg q] at hf; cases hf
    rw [if_pos h4] at hf
    by_cases h5 : r3 = (-1)
    · rw [if_pos h5] at hf
      refine Rt.path ok_Reader_takeStep 4 [0] rfl ⟨⟨⟨h4, (show ir (-1) by decide)⟩, h5⟩, trivial⟩ ?_
      cases hf
      refine Rt.path ok_Reader_takeStep 2 [] rfl trivial ?_
      exact Rt.retI ok_Reader_takeStep rfl rfl
    · rw [if_neg h5] at hf
      refine Rt.path ok_Reader_takeStep 4 [1] rfl ⟨⟨⟨h4, (show ir (-1) by decide)⟩, h5⟩, trivial⟩ ?_
      obtain ⟨r6, g6, e6, hf⟩ := bd_inv hf
      refine Rt.path ok_Reader_takeStep 3 [] rfl trivial ?_
      refine Rt.callV ok_Reader_takeStep rfl ml_Reader_263 [vI _] cf_Proof_stepWith rfl rfl (c_Proof_stepWith_34 d _ _ _ _ e6) (Nat.le_of_ble_eq_true rfl) ?_
      cases hf
      exact Rt.retI ok_Reader_takeStep rfl rfl
def f_Reader_beginSteps_26 (a1 : Int64) (g : G2) : Option (Int × G2) :=
  if a1 = (Int64.ofNat 40) then
    (f_Letters_begin_44 (rI g 10 4) g).bind fun g2 =>
    some (0, (gI g2 25 6 12))
  else
    bd (f_Reader_takeStep_26 a1 (gI g 25 6 11)) fun r3 g3 =>
    some (r3, g3)
set_option maxHeartbeats 4000000 in
set_option maxRecDepth 100000 in
theorem c_Reader_beginSteps_26 (d : Nat) (a1 : Int64) (g : G2) (r : Int) (g' : G2) (hf : f_Reader_beginSteps_26 a1 g = some (r, g')) : C2 (d + 5) m_Reader_beginSteps [vR 26, vL a1] g (some (vI r)) g' := by
  unfold f_Reader_beginSteps_26 at hf
  refine C2.of rfl rfl rfl (Nat.le_of_ble_eq_true rfl) ?_
  by_cases h1 : a1 = (Int64.ofNat 40)
  · rw [if_pos h1] at hf
    refine Rt.path ok_Reader_beginSteps 4 [1] rfl ⟨⟨(am_cmpIn _ _), (am_cmp0.mpr h1)⟩, trivial⟩ ?_
    obtain ⟨g2, e2, hf⟩ := Option.bind_eq_some_iff.mp hf
    refine Rt.path ok_Reader_beginSteps 6 [] rfl trivial ?_
    refine Rt.callV ok_Reader_beginSteps rfl ml_Reader_253 [vI _] cf_Letters_begin rfl rfl (c_Letters_begin_44 (d + 3) _ _ _ e2) (Nat.le_of_ble_eq_true rfl) ?_
    cases hf
    refine Rt.path ok_Reader_beginSteps 4 [] rfl trivial ?_
    exact Rt.retI ok_Reader_beginSteps rfl rfl
  · rw [if_neg h1] at hf
    refine Rt.path ok_Reader_beginSteps 4 [0] rfl ⟨⟨(am_cmpIn _ _), (fun q => h1 (am_cmp0.mp q))⟩, trivial⟩ ?_
    obtain ⟨r3, g3, e3, hf⟩ := bd_inv hf
    refine Rt.path ok_Reader_beginSteps 5 [] rfl trivial ?_
    refine Rt.callV ok_Reader_beginSteps rfl ml_Reader_136 [vL _] cf_Reader_takeStep rfl rfl (c_Reader_takeStep_26 d _ _ _ _ e3) (Nat.le_of_ble_eq_true rfl) ?_
    cases hf
    exact Rt.retI ok_Reader_beginSteps rfl rfl
def f_Letters_addListed_44 (a1 : Int) (g : G2) : Option (Int × G2) :=
  if ir (rI g 43 4) then
  if (rI g 43 4) < 20 then
    if 0 ≤ (rI g 43 3) ∧ (rI g 43 3) < 60 then
    some (0, (gI (gI (gA g 44 (rI g 43 3) a1) 43 3 ((rI g 43 3) + 1)) 43 4 ((rI g 43 4) + 1)))
    else none
  else
    some ((-7), g)
  else none
set_option maxHeartbeats 4000000 in
set_option maxRecDepth 100000 in
theorem c_Letters_addListed_44 (d : Nat) (a1 : Int) (g : G2) (r : Int) (g' : G2) (hf : f_Letters_addListed_44 a1 g = some (r, g')) : C2 d m_Letters_addListed [vR 44, vI a1] g (some (vI r)) g' := by
  unfold f_Letters_addListed_44 at hf
  refine C2.of rfl rfl rfl (Nat.le_of_ble_eq_true rfl) ?_
  have h1 : ir (rI g 43 4) := by
    by_cases q : ir (rI g 43 4)
    · exact q
    · rw [if_neg q] at hf; cases hf
  rw [if_pos h1] at hf
  by_cases h2 : (rI g 43 4) < 20
  · rw [if_pos h2] at hf
    refine Rt.path ok_Letters_addListed 4 [1] rfl ⟨⟨⟨h1, (show ir 20 by decide)⟩, h2⟩, trivial⟩ ?_
    have h3 : 0 ≤ (rI g 43 3) ∧ (rI g 43 3) < 60 := by
      by_cases q : 0 ≤ (rI g 43 3) ∧ (rI g 43 3) < 60
      · exact q
      · rw [if_neg q] at hf; cases hf
    rw [if_pos h3] at hf
    cases hf
    refine Rt.path ok_Letters_addListed 19 [] rfl ⟨(ix_60 h3), trivial⟩ ?_
    exact Rt.retI ok_Letters_addListed rfl rfl
  · rw [if_neg h2] at hf
    refine Rt.path ok_Letters_addListed 4 [0] rfl ⟨⟨⟨h1, (show ir 20 by decide)⟩, (Int.not_lt.mp h2)⟩, trivial⟩ ?_
    cases hf
    refine Rt.path ok_Letters_addListed 1 [] rfl trivial ?_
    exact Rt.retI ok_Letters_addListed rfl rfl
def f_Reader_takeListed_26 (a1 : Int64) (g : G2) : Option (Int × G2) :=
  if a1 = (Int64.ofNat 41) then
    some (0, (gI g 25 6 13))
  else
    bd (f_Reader_findUsable_26 a1 g) fun r2 g2 =>
    if ir r2 then
    if r2 = (-1) then
      some ((-8), g2)
    else
      bd (f_Statements_isMandatory_8 (rI g2 10 4) r2 g2) fun r5 g5 =>
      if ir r5 then
      if r5 = 0 then
        bd (f_Letters_addListed_44 r2 g5) fun r8 g8 =>
        some (r8, g8)
      else
        some ((-8), g5)
      else none
    else none
set_option maxHeartbeats 4000000 in
set_option maxRecDepth 100000 in
theorem c_Reader_takeListed_26 (d : Nat) (a1 : Int64) (g : G2) (r : Int) (g' : G2) (hf : f_Reader_takeListed_26 a1 g = some (r, g')) : C2 (d + 2) m_Reader_takeListed [vR 26, vL a1] g (some (vI r)) g' := by
  unfold f_Reader_takeListed_26 at hf
  refine C2.of rfl rfl rfl (Nat.le_of_ble_eq_true rfl) ?_
  by_cases h1 : a1 = (Int64.ofNat 41)
  · rw [if_pos h1] at hf
    refine Rt.path ok_Reader_takeListed 4 [0] rfl ⟨⟨(am_cmpIn _ _), (am_cmp0.mpr h1)⟩, trivial⟩ ?_
    cases hf
    refine Rt.path ok_Reader_takeListed 4 [] rfl trivial ?_
    exact Rt.retI ok_Reader_takeListed rfl rfl
  · rw [if_neg h1] at hf
    refine Rt.path ok_Reader_takeListed 4 [1] rfl ⟨⟨(am_cmpIn _ _), (fun q => h1 (am_cmp0.mp q))⟩, trivial⟩ ?_
    obtain ⟨r2, g2, e2, hf⟩ := bd_inv hf
    refine Rt.path ok_Reader_takeListed 2 [] rfl trivial ?_
    refine Rt.callV ok_Reader_takeListed rfl ml_Reader_260 [vL _] cf_Reader_findUsable rfl rfl (c_Reader_findUsable_26 d _ _ _ _ e2) (Nat.le_of_ble_eq_true rfl) ?_
    have h3 : ir r2 := by
      by_cases q : ir r2
      · exact q
      · rw [if_neg q] at hf; cases hf
    rw [if_pos h3] at hf
    by_cases h4 : r2 = (-1)
    · rw [if_pos h4] at hf
      refine Rt.path ok_Reader_takeListed 4 [1] rfl ⟨⟨⟨h3, (show ir (-1) by decide)⟩, h4⟩, trivial⟩ ?_
      cases hf
      refine Rt.path ok_Reader_takeListed 1 [] rfl trivial ?_
      exact Rt.retI ok_Reader_takeListed rfl rfl
    · rw [if_neg h4] at hf
      refine Rt.path ok_Reader_takeListed 4 [0] rfl ⟨⟨⟨h3, (show ir (-1) by decide)⟩, h4⟩, trivial⟩ ?_
      obtain ⟨r5, g5, e5, hf⟩ := bd_inv hf
      refine Rt.path ok_Reader_takeListed 7 [] rfl trivial ?_
      refine Rt.callV ok_Reader_takeListed rfl ml_Reader_268 [vI _, vI _] cf_Statements_isMandatory rfl rfl (c_Statements_isMandatory_8 (d + 1) _ _ _ _ _ e5) (Nat.le_of_ble_eq_true rfl) ?_
      have h6 : ir r5 := by
        by_cases q : ir r5
        · exact q
        · rw [if_neg q] at hf; cases hf
      rw [if_pos h6] at hf
      by_cases h7 : r5 = 0
      · rw [if_pos h7] at hf
        refine Rt.path ok_Reader_takeListed 1 [1] rfl ⟨⟨h6, h7⟩, trivial⟩ ?_
        obtain ⟨r8, g8, e8, hf⟩ := bd_inv hf
        refine Rt.path ok_Reader_takeListed 3 [] rfl trivial ?_
        refine Rt.callV ok_Reader_takeListed rfl ml_Reader_272 [vI _] cf_Letters_addListed rfl rfl (c_Letters_addListed_44 (d + 1) _ _ _ _ e8) (Nat.le_of_ble_eq_true rfl) ?_
        cases hf
        exact Rt.retI ok_Reader_takeListed rfl rfl
      · rw [if_neg h7] at hf
        refine Rt.path ok_Reader_takeListed 1 [0] rfl ⟨⟨h6, h7⟩, trivial⟩ ?_
        cases hf
        refine Rt.path ok_Reader_takeListed 1 [] rfl trivial ?_
        exact Rt.retI ok_Reader_takeListed rfl rfl
def f_Letters_addGap_44  (g : G2) : Option (Int × G2) :=
  if ir (rI g 43 8) then
  if (rI g 43 8) = 0 then
    (f_Proof_leaveGap_34 (gI g 43 9 0)).bind fun g3 =>
    some (0, g3)
  else
    some ((-8), g)
  else none
set_option maxHeartbeats 4000000 in
set_option maxRecDepth 100000 in
theorem c_Letters_addGap_44 (d : Nat)  (g : G2) (r : Int) (g' : G2) (hf : f_Letters_addGap_44 g = some (r, g')) : C2 (d + 2) m_Letters_addGap [vR 44] g (some (vI r)) g' := by
  unfold f_Letters_addGap_44 at hf
  refine C2.of rfl rfl rfl (Nat.le_of_ble_eq_true rfl) ?_
  have h1 : ir (rI g 43 8) := by
    by_cases q : ir (rI g 43 8)
    · exact q
    · rw [if_neg q] at hf; cases hf
  rw [if_pos h1] at hf
  by_cases h2 : (rI g 43 8) = 0
  · rw [if_pos h2] at hf
    refine Rt.path ok_Letters_addGap 3 [1] rfl ⟨⟨h1, h2⟩, trivial⟩ ?_
    obtain ⟨g3, e3, hf⟩ := Option.bind_eq_some_iff.mp hf
    refine Rt.path ok_Letters_addGap 5 [] rfl ⟨(show (0 : Int) = 0 ∨ (0 : Int) = 1 by decide), trivial⟩ ?_
    refine Rt.callV ok_Letters_addGap rfl ml_Letters_99 [] cf_Proof_leaveGap rfl rfl (c_Proof_leaveGap_34 d _ _ e3) (Nat.le_of_ble_eq_true rfl) ?_
    cases hf
    refine Rt.path ok_Letters_addGap 1 [] rfl trivial ?_
    exact Rt.retI ok_Letters_addGap rfl rfl
  · rw [if_neg h2] at hf
    refine Rt.path ok_Letters_addGap 3 [0] rfl ⟨⟨h1, h2⟩, trivial⟩ ?_
    cases hf
    refine Rt.path ok_Letters_addGap 1 [] rfl trivial ?_
    exact Rt.retI ok_Letters_addGap rfl rfl
def f_Expressions_addCopy_46_35 (a2 : Int) (g : G2) : Option (G2) :=
  if 0 ≤ a2 ∧ a2 < 16 then
  if 0 ≤ (a2 * 24) ∧ 0 ≤ ((rI g 45 4) * 24) ∧ 0 ≤ (rA g 36 a2) ∧ (a2 * 24) + (rA g 36 a2) ≤ 384 ∧ ((rI g 45 4) * 24) + (rA g 36 a2) ≤ 384 then
  if 0 ≤ (rI g 45 4) ∧ (rI g 45 4) < 16 then
  some (gI (gB (gA (gC g 35 46 (a2 * 24) ((rI g 45 4) * 24) (rA g 36 a2)) 47 (rI g 45 4) (rA g 36 a2)) 48 (rI g 45 4) (rB g 37 a2)) 45 4 ((rI g 45 4) + 1))
  else none
  else none
  else none
set_option maxHeartbeats 4000000 in
set_option maxRecDepth 100000 in
theorem c_Expressions_addCopy_46_35 (d : Nat) (a2 : Int) (g : G2) (g' : G2) (hf : f_Expressions_addCopy_46_35 a2 g = some g') : C2 d m_Expressions_addCopy [vR 46, vR 35, vI a2] g none g' := by
  unfold f_Expressions_addCopy_46_35 at hf
  refine C2.of rfl rfl rfl (Nat.le_of_ble_eq_true rfl) ?_
  have h1 : 0 ≤ a2 ∧ a2 < 16 := by
    by_cases q : 0 ≤ a2 ∧ a2 < 16
    · exact q
    · rw [if_neg q] at hf; cases hf
  rw [if_pos h1] at hf
  have h2 : 0 ≤ (a2 * 24) ∧ 0 ≤ ((rI g 45 4) * 24) ∧ 0 ≤ (rA g 36 a2) ∧ (a2 * 24) + (rA g 36 a2) ≤ 384 ∧ ((rI g 45 4) * 24) + (rA g 36 a2) ≤ 384 := by
    by_cases q : 0 ≤ (a2 * 24) ∧ 0 ≤ ((rI g 45 4) * 24) ∧ 0 ≤ (rA g 36 a2) ∧ (a2 * 24) + (rA g 36 a2) ≤ 384 ∧ ((rI g 45 4) * 24) + (rA g 36 a2) ≤ 384
    · exact q
    · rw [if_neg q] at hf; cases hf
  rw [if_pos h2] at hf
  have h3 : 0 ≤ (rI g 45 4) ∧ (rI g 45 4) < 16 := by
    by_cases q : 0 ≤ (rI g 45 4) ∧ (rI g 45 4) < 16
    · exact q
    · rw [if_neg q] at hf; cases hf
  rw [if_pos h3] at hf
  cases hf
  refine Rt.path ok_Expressions_addCopy 40 [] rfl ⟨(ix_16 h1), ⟨(cp_384_384 h2), Nat.le_of_ble_eq_true rfl⟩, (ix_16 h1), (ix_16 h3), (ix_16 h1), (ix_16 h3), trivial⟩ ?_
  exact Rt.retV ok_Expressions_addCopy rfl rfl
def f_Letters_addTag_44  (g : G2) : Option (Int × G2) :=
  if ir (rI g 43 9) then
  if (rI g 43 9) = 0 then
    some ((-8), g)
  else
    if ir (rI g 43 6) then
    if (rI g 43 6) < 16 then
      if ir (rI g 33 7) then
      if (rI g 33 7) = 0 then
        (f_Expressions_addCopy_46_35 ((rI g 34 4) - 1) (gI (gI g 43 9 0) 43 6 ((rI g 43 6) + 1))).bind fun g7 =>
        some (0, g7)
      else
        some (0, (gI (gI g 43 9 0) 43 6 ((rI g 43 6) + 1)))
      else none
    else
      some ((-7), g)
    else none
  else none
set_option maxHeartbeats 4000000 in
set_option maxRecDepth 100000 in
theorem c_Letters_addTag_44 (d : Nat)  (g : G2) (r : Int) (g' : G2) (hf : f_Letters_addTag_44 g = some (r, g')) : C2 (d + 1) m_Letters_addTag [vR 44] g (some (vI r)) g' := by
  unfold f_Letters_addTag_44 at hf
  refine C2.of rfl rfl rfl (Nat.le_of_ble_eq_true rfl) ?_
  have h1 : ir (rI g 43 9) := by
    by_cases q : ir (rI g 43 9)
    · exact q
    · rw [if_neg q] at hf; cases hf
  rw [if_pos h1] at hf
  by_cases h2 : (rI g 43 9) = 0
  · rw [if_pos h2] at hf
    refine Rt.path ok_Letters_addTag 3 [0] rfl ⟨⟨h1, h2⟩, trivial⟩ ?_
    cases hf
    refine Rt.path ok_Letters_addTag 1 [] rfl trivial ?_
    exact Rt.retI ok_Letters_addTag rfl rfl
  · rw [if_neg h2] at hf
    refine Rt.path ok_Letters_addTag 3 [1] rfl ⟨⟨h1, h2⟩, trivial⟩ ?_
    have h3 : ir (rI g 43 6) := by
      by_cases q : ir (rI g 43 6)
      · exact q
      · rw [if_neg q] at hf; cases hf
    rw [if_pos h3] at hf
    by_cases h4 : (rI g 43 6) < 16
    · rw [if_pos h4] at hf
      refine Rt.path ok_Letters_addTag 4 [1] rfl ⟨⟨⟨h3, (show ir 16 by decide)⟩, h4⟩, trivial⟩ ?_
      have h5 : ir (rI g 33 7) := by
        by_cases q : ir (rI g 33 7)
        · exact q
        · rw [if_neg q] at hf; cases hf
      rw [if_pos h5] at hf
      by_cases h6 : (rI g 33 7) = 0
      · rw [if_pos h6] at hf
        refine Rt.path ok_Letters_addTag 13 [0] rfl ⟨(show (0 : Int) = 0 ∨ (0 : Int) = 1 by decide), ⟨h5, h6⟩, trivial⟩ ?_
        obtain ⟨g7, e7, hf⟩ := Option.bind_eq_some_iff.mp hf
        refine Rt.path ok_Letters_addTag 11 [] rfl trivial ?_
        refine Rt.callV ok_Letters_addTag rfl ml_Letters_105 [vR 35, vI _] cf_Expressions_addCopy rfl rfl (c_Expressions_addCopy_46_35 d _ _ _ e7) (Nat.le_of_ble_eq_true rfl) ?_
        cases hf
        refine Rt.path ok_Letters_addTag 1 [] rfl trivial ?_
        exact Rt.retI ok_Letters_addTag rfl rfl
      · rw [if_neg h6] at hf
        refine Rt.path ok_Letters_addTag 13 [1] rfl ⟨(show (0 : Int) = 0 ∨ (0 : Int) = 1 by decide), ⟨h5, h6⟩, trivial⟩ ?_
        cases hf
        refine Rt.path ok_Letters_addTag 1 [] rfl trivial ?_
        exact Rt.retI ok_Letters_addTag rfl rfl
    · rw [if_neg h4] at hf
      refine Rt.path ok_Letters_addTag 4 [0] rfl ⟨⟨⟨h3, (show ir 16 by decide)⟩, (Int.not_lt.mp h4)⟩, trivial⟩ ?_
      cases hf
      refine Rt.path ok_Letters_addTag 1 [] rfl trivial ?_
      exact Rt.retI ok_Letters_addTag rfl rfl
def f_Letters_takeLetter_44 (a1 : Int) (g : G2) : Option (Int × G2) :=
  if ir a1 then
  if a1 = 63 then
    bd (f_Letters_addGap_44 g) fun r3 g3 =>
    some (r3, g3)
  else
    if a1 = 90 then
      bd (f_Letters_addTag_44 g) fun r5 g5 =>
      some (r5, g5)
    else
      if ir (rI g 43 8) then
      if (rI g 43 8) = 0 then
        if a1 < 85 then
          if ir ((((20 * 0) + a1) - 65) + 1) then
          if 9999 < ((((20 * 0) + a1) - 65) + 1) then
            some ((-7), (gI (gI (gI g 43 8 0) 43 9 1) 43 7 ((((20 * 0) + a1) - 65) + 1)))
          else
            some (0, (gI (gI (gI g 43 8 0) 43 9 1) 43 7 ((((20 * 0) + a1) - 65) + 1)))
          else none
        else
          if ir ((((5 * 0) + a1) - 85) + 1) then
          if 9999 < ((((5 * 0) + a1) - 85) + 1) then
            some ((-7), (gI (gI (gI g 43 8 1) 43 9 0) 43 7 ((((5 * 0) + a1) - 85) + 1)))
          else
            some (0, (gI (gI (gI g 43 8 1) 43 9 0) 43 7 ((((5 * 0) + a1) - 85) + 1)))
          else none
      else
        if a1 < 85 then
          if ir ((((20 * (rI g 43 7)) + a1) - 65) + 1) then
          if 9999 < ((((20 * (rI g 43 7)) + a1) - 65) + 1) then
            some ((-7), (gI (gI (gI g 43 8 0) 43 9 1) 43 7 ((((20 * (rI g 43 7)) + a1) - 65) + 1)))
          else
            some (0, (gI (gI (gI g 43 8 0) 43 9 1) 43 7 ((((20 * (rI g 43 7)) + a1) - 65) + 1)))
          else none
        else
          if ir ((((5 * (rI g 43 7)) + a1) - 85) + 1) then
          if 9999 < ((((5 * (rI g 43 7)) + a1) - 85) + 1) then
            some ((-7), (gI (gI (gI g 43 8 1) 43 9 0) 43 7 ((((5 * (rI g 43 7)) + a1) - 85) + 1)))
          else
            some (0, (gI (gI (gI g 43 8 1) 43 9 0) 43 7 ((((5 * (rI g 43 7)) + a1) - 85) + 1)))
          else none
      else none
  else none
set_option maxHeartbeats 4000000 in
set_option maxRecDepth 100000 in
theorem c_Letters_takeLetter_44 (d : Nat) (a1 : Int) (g : G2) (r : Int) (g' : G2) (hf : f_Letters_takeLetter_44 a1 g = some (r, g')) : C2 (d + 3) m_Letters_takeLetter [vR 44, vI a1] g (some (vI r)) g' := by
  unfold f_Letters_takeLetter_44 at hf
  refine C2.of rfl rfl rfl (Nat.le_of_ble_eq_true rfl) ?_
  have h1 : ir a1 := by
    by_cases q : ir a1
    · exact q
    · rw [if_neg q] at hf; cases hf
  rw [if_pos h1] at hf
  by_cases h2 : a1 = 63
  · rw [if_pos h2] at hf
    refine Rt.path ok_Letters_takeLetter 3 [0] rfl ⟨⟨⟨h1, (show ir 63 by decide)⟩, h2⟩, trivial⟩ ?_
    obtain ⟨r3, g3, e3, hf⟩ := bd_inv hf
    refine Rt.path ok_Letters_takeLetter 1 [] rfl trivial ?_
    refine Rt.callV ok_Letters_takeLetter rfl ml_Letters_78 [] cf_Letters_addGap rfl rfl (c_Letters_addGap_44 d _ _ _ e3) (Nat.le_of_ble_eq_true rfl) ?_
    cases hf
    exact Rt.retI ok_Letters_takeLetter rfl rfl
  · rw [if_neg h2] at hf
    refine Rt.path ok_Letters_takeLetter 3 [1] rfl ⟨⟨⟨h1, (show ir 63 by decide)⟩, h2⟩, trivial⟩ ?_
    by_cases h4 : a1 = 90
    · rw [if_pos h4] at hf
      refine Rt.path ok_Letters_takeLetter 3 [0] rfl ⟨⟨⟨h1, (show ir 90 by decide)⟩, h4⟩, trivial⟩ ?_
      obtain ⟨r5, g5, e5, hf⟩ := bd_inv hf
      refine Rt.path ok_Letters_takeLetter 1 [] rfl trivial ?_
      refine Rt.callV ok_Letters_takeLetter rfl ml_Letters_81 [] cf_Letters_addTag rfl rfl (c_Letters_addTag_44 (d + 1) _ _ _ e5) (Nat.le_of_ble_eq_true rfl) ?_
      cases hf
      exact Rt.retI ok_Letters_takeLetter rfl rfl
    · rw [if_neg h4] at hf
      refine Rt.path ok_Letters_takeLetter 3 [1] rfl ⟨⟨⟨h1, (show ir 90 by decide)⟩, h4⟩, trivial⟩ ?_
      have h6 : ir (rI g 43 8) := by
        by_cases q : ir (rI g 43 8)
        · exact q
        · rw [if_neg q] at hf; cases hf
      rw [if_pos h6] at hf
      by_cases h7 : (rI g 43 8) = 0
      · rw [if_pos h7] at hf
        refine Rt.path ok_Letters_takeLetter 3 [1] rfl ⟨⟨h6, h7⟩, trivial⟩ ?_
        by_cases h8 : a1 < 85
        · rw [if_pos h8] at hf
          refine Rt.path ok_Letters_takeLetter 6 [1] rfl ⟨⟨⟨h1, (show ir 85 by decide)⟩, h8⟩, trivial⟩ ?_
          have h9 : ir ((((20 * 0) + a1) - 65) + 1) := by
            by_cases q : ir ((((20 * 0) + a1) - 65) + 1)
            · exact q
            · rw [if_neg q] at hf; cases hf
          rw [if_pos h9] at hf
          by_cases h10 : 9999 < ((((20 * 0) + a1) - 65) + 1)
          · rw [if_pos h10] at hf
            refine Rt.path ok_Letters_takeLetter 27 [0, 1, 0] rfl ⟨(show (0 : Int) = 0 ∨ (0 : Int) = 1 by decide), ⟨(show ir 0 by decide), (show (0 : Int) = (0 : Int) by decide)⟩, (show (1 : Int) = 0 ∨ (1 : Int) = 1 by decide), ⟨(show ir 0 by decide), (show (0 : Int) = (0 : Int) by decide)⟩, ⟨⟨h9, (show ir 9999 by decide)⟩, h10⟩, trivial⟩ ?_
            cases hf
            refine Rt.path ok_Letters_takeLetter 2 [] rfl trivial ?_
            exact Rt.retI ok_Letters_takeLetter rfl rfl
          · rw [if_neg h10] at hf
            refine Rt.path ok_Letters_takeLetter 27 [0, 1, 1] rfl ⟨(show (0 : Int) = 0 ∨ (0 : Int) = 1 by decide), ⟨(show ir 0 by decide), (show (0 : Int) = (0 : Int) by decide)⟩, (show (1 : Int) = 0 ∨ (1 : Int) = 1 by decide), ⟨(show ir 0 by decide), (show (0 : Int) = (0 : Int) by decide)⟩, ⟨⟨h9, (show ir 9999 by decide)⟩, (Int.not_lt.mp h10)⟩, trivial⟩ ?_
            cases hf
            refine Rt.path ok_Letters_takeLetter 1 [] rfl trivial ?_
            exact Rt.retI ok_Letters_takeLetter rfl rfl
        · rw [if_neg h8] at hf
          refine Rt.path ok_Letters_takeLetter 6 [0] rfl ⟨⟨⟨h1, (show ir 85 by decide)⟩, (Int.not_lt.mp h8)⟩, trivial⟩ ?_
          have h11 : ir ((((5 * 0) + a1) - 85) + 1) := by
            by_cases q : ir ((((5 * 0) + a1) - 85) + 1)
            · exact q
            · rw [if_neg q] at hf; cases hf
          rw [if_pos h11] at hf
          by_cases h12 : 9999 < ((((5 * 0) + a1) - 85) + 1)
          · rw [if_pos h12] at hf
            refine Rt.path ok_Letters_takeLetter 28 [1, 0, 0] rfl ⟨(show (1 : Int) = 0 ∨ (1 : Int) = 1 by decide), ⟨(show ir 1 by decide), (show ¬ (1 : Int) = (0 : Int) by decide)⟩, (show (0 : Int) = 0 ∨ (0 : Int) = 1 by decide), ⟨(show ir 1 by decide), (show ¬ (1 : Int) = (0 : Int) by decide)⟩, ⟨⟨h11, (show ir 9999 by decide)⟩, h12⟩, trivial⟩ ?_
            cases hf
            refine Rt.path ok_Letters_takeLetter 2 [] rfl trivial ?_
            exact Rt.retI ok_Letters_takeLetter rfl rfl
          · rw [if_neg h12] at hf
            refine Rt.path ok_Letters_takeLetter 28 [1, 0, 1] rfl ⟨(show (1 : Int) = 0 ∨ (1 : Int) = 1 by decide), ⟨(show ir 1 by decide), (show ¬ (1 : Int) = (0 : Int) by decide)⟩, (show (0 : Int) = 0 ∨ (0 : Int) = 1 by decide), ⟨(show ir 1 by decide), (show ¬ (1 : Int) = (0 : Int) by decide)⟩, ⟨⟨h11, (show ir 9999 by decide)⟩, (Int.not_lt.mp h12)⟩, trivial⟩ ?_
            cases hf
            refine Rt.path ok_Letters_takeLetter 1 [] rfl trivial ?_
            exact Rt.retI ok_Letters_takeLetter rfl rfl
      · rw [if_neg h7] at hf
        refine Rt.path ok_Letters_takeLetter 3 [0] rfl ⟨⟨h6, h7⟩, trivial⟩ ?_
        by_cases h13 : a1 < 85
        · rw [if_pos h13] at hf
          refine Rt.path ok_Letters_takeLetter 8 [1] rfl ⟨⟨⟨h1, (show ir 85 by decide)⟩, h13⟩, trivial⟩ ?_
          have h14 : ir ((((20 * (rI g 43 7)) + a1) - 65) + 1) := by
            by_cases q : ir ((((20 * (rI g 43 7)) + a1) - 65) + 1)
            · exact q
            · rw [if_neg q] at hf; cases hf
          rw [if_pos h14] at hf
          by_cases h15 : 9999 < ((((20 * (rI g 43 7)) + a1) - 65) + 1)
          · rw [if_pos h15] at hf
            refine Rt.path ok_Letters_takeLetter 27 [0, 1, 0] rfl ⟨(show (0 : Int) = 0 ∨ (0 : Int) = 1 by decide), ⟨(show ir 0 by decide), (show (0 : Int) = (0 : Int) by decide)⟩, (show (1 : Int) = 0 ∨ (1 : Int) = 1 by decide), ⟨(show ir 0 by decide), (show (0 : Int) = (0 : Int) by decide)⟩, ⟨⟨h14, (show ir 9999 by decide)⟩, h15⟩, trivial⟩ ?_
            cases hf
            refine Rt.path ok_Letters_takeLetter 2 [] rfl trivial ?_
            exact Rt.retI ok_Letters_takeLetter rfl rfl
          · rw [if_neg h15] at hf
            refine Rt.path ok_Letters_takeLetter 27 [0, 1, 1] rfl ⟨(show (0 : Int) = 0 ∨ (0 : Int) = 1 by decide), ⟨(show ir 0 by decide), (show (0 : Int) = (0 : Int) by decide)⟩, (show (1 : Int) = 0 ∨ (1 : Int) = 1 by decide), ⟨(show ir 0 by decide), (show (0 : Int) = (0 : Int) by decide)⟩, ⟨⟨h14, (show ir 9999 by decide)⟩, (Int.not_lt.mp h15)⟩, trivial⟩ ?_
            cases hf
            refine Rt.path ok_Letters_takeLetter 1 [] rfl trivial ?_
            exact Rt.retI ok_Letters_takeLetter rfl rfl
        · rw [if_neg h13] at hf
          refine Rt.path ok_Letters_takeLetter 8 [0] rfl ⟨⟨⟨h1, (show ir 85 by decide)⟩, (Int.not_lt.mp h13)⟩, trivial⟩ ?_
          have h16 : ir ((((5 * (rI g 43 7)) + a1) - 85) + 1) := by
            by_cases q : ir ((((5 * (rI g 43 7)) + a1) - 85) + 1)
            · exact q
            · rw [if_neg q] at hf; cases hf
          rw [if_pos h16] at hf
          by_cases h17 : 9999 < ((((5 * (rI g 43 7)) + a1) - 85) + 1)
          · rw [if_pos h17] at hf
            refine Rt.path ok_Letters_takeLetter 28 [1, 0, 0] rfl ⟨(show (1 : Int) = 0 ∨ (1 : Int) = 1 by decide), ⟨(show ir 1 by decide), (show ¬ (1 : Int) = (0 : Int) by decide)⟩, (show (0 : Int) = 0 ∨ (0 : Int) = 1 by decide), ⟨(show ir 1 by decide), (show ¬ (1 : Int) = (0 : Int) by decide)⟩, ⟨⟨h16, (show ir 9999 by decide)⟩, h17⟩, trivial⟩ ?_
            cases hf
            refine Rt.path ok_Letters_takeLetter 2 [] rfl trivial ?_
            exact Rt.retI ok_Letters_takeLetter rfl rfl
          · rw [if_neg h17] at hf
            refine Rt.path ok_Letters_takeLetter 28 [1, 0, 1] rfl ⟨(show (1 : Int) = 0 ∨ (1 : Int) = 1 by decide), ⟨(show ir 1 by decide), (show ¬ (1 : Int) = (0 : Int) by decide)⟩, (show (0 : Int) = 0 ∨ (0 : Int) = 1 by decide), ⟨(show ir 1 by decide), (show ¬ (1 : Int) = (0 : Int) by decide)⟩, ⟨⟨h16, (show ir 9999 by decide)⟩, (Int.not_lt.mp h17)⟩, trivial⟩ ?_
            cases hf
            refine Rt.path ok_Letters_takeLetter 1 [] rfl trivial ?_
            exact Rt.retI ok_Letters_takeLetter rfl rfl
def f_Expressions_addCopy_35_46 (a2 : Int) (g : G2) : Option (G2) :=
  if 0 ≤ a2 ∧ a2 < 16 then
  if 0 ≤ (a2 * 24) ∧ 0 ≤ ((rI g 34 4) * 24) ∧ 0 ≤ (rA g 47 a2) ∧ (a2 * 24) + (rA g 47 a2) ≤ 384 ∧ ((rI g 34 4) * 24) + (rA g 47 a2) ≤ 384 then
  if 0 ≤ (rI g 34 4) ∧ (rI g 34 4) < 16 then
  some (gI (gB (gA (gC g 46 35 (a2 * 24) ((rI g 34 4) * 24) (rA g 47 a2)) 36 (rI g 34 4) (rA g 47 a2)) 37 (rI g 34 4) (rB g 48 a2)) 34 4 ((rI g 34 4) + 1))
  else none
  else none
  else none
set_option maxHeartbeats 4000000 in
set_option maxRecDepth 100000 in
theorem c_Expressions_addCopy_35_46 (d : Nat) (a2 : Int) (g : G2) (g' : G2) (hf : f_Expressions_addCopy_35_46 a2 g = some g') : C2 d m_Expressions_addCopy [vR 35, vR 46, vI a2] g none g' := by
  unfold f_Expressions_addCopy_35_46 at hf
  refine C2.of rfl rfl rfl (Nat.le_of_ble_eq_true rfl) ?_
  have h1 : 0 ≤ a2 ∧ a2 < 16 := by
    by_cases q : 0 ≤ a2 ∧ a2 < 16
    · exact q
    · rw [if_neg q] at hf; cases hf
  rw [if_pos h1] at hf
  have h2 : 0 ≤ (a2 * 24) ∧ 0 ≤ ((rI g 34 4) * 24) ∧ 0 ≤ (rA g 47 a2) ∧ (a2 * 24) + (rA g 47 a2) ≤ 384 ∧ ((rI g 34 4) * 24) + (rA g 47 a2) ≤ 384 := by
    by_cases q : 0 ≤ (a2 * 24) ∧ 0 ≤ ((rI g 34 4) * 24) ∧ 0 ≤ (rA g 47 a2) ∧ (a2 * 24) + (rA g 47 a2) ≤ 384 ∧ ((rI g 34 4) * 24) + (rA g 47 a2) ≤ 384
    · exact q
    · rw [if_neg q] at hf; cases hf
  rw [if_pos h2] at hf
  have h3 : 0 ≤ (rI g 34 4) ∧ (rI g 34 4) < 16 := by
    by_cases q : 0 ≤ (rI g 34 4) ∧ (rI g 34 4) < 16
    · exact q
    · rw [if_neg q] at hf; cases hf
  rw [if_pos h3] at hf
  cases hf
  refine Rt.path ok_Expressions_addCopy 40 [] rfl ⟨(ix_16 h1), ⟨(cp_384_384 h2), Nat.le_of_ble_eq_true rfl⟩, (ix_16 h1), (ix_16 h3), (ix_16 h1), (ix_16 h3), trivial⟩ ?_
  exact Rt.retV ok_Expressions_addCopy rfl rfl
def f_Proof_put_34_46 (a2 : Int) (g : G2) : Option (Int × G2) :=
  bd (f_Expressions_isFull_35 g) fun r1 g1 =>
  if ir r1 then
  if r1 = 0 then
    (f_Expressions_addCopy_35_46 a2 g1).bind fun g4 =>
    (f_Assertions_noteStep_17 (rI g4 34 4) g4).bind fun g5 =>
    some (0, g5)
  else
    some ((-7), g1)
  else none
set_option maxHeartbeats 4000000 in
set_option maxRecDepth 100000 in
theorem c_Proof_put_34_46 (d : Nat) (a2 : Int) (g : G2) (r : Int) (g' : G2) (hf : f_Proof_put_34_46 a2 g = some (r, g')) : C2 (d + 1) m_Proof_put [vR 34, vR 46, vI a2] g (some (vI r)) g' := by
  unfold f_Proof_put_34_46 at hf
  refine C2.of rfl rfl rfl (Nat.le_of_ble_eq_true rfl) ?_
  obtain ⟨r1, g1, e1, hf⟩ := bd_inv hf
  refine Rt.path ok_Proof_put 2 [] rfl trivial ?_
  refine Rt.callV ok_Proof_put rfl ml_Proof_96 [] cf_Expressions_isFull rfl rfl (c_Expressions_isFull_35 d _ _ _ e1) (Nat.le_of_ble_eq_true rfl) ?_
  have h2 : ir r1 := by
    by_cases q : ir r1
    · exact q
    · rw [if_neg q] at hf; cases hf
  rw [if_pos h2] at hf
  by_cases h3 : r1 = 0
  · rw [if_pos h3] at hf
    refine Rt.path ok_Proof_put 1 [1] rfl ⟨⟨h2, h3⟩, trivial⟩ ?_
    obtain ⟨g4, e4, hf⟩ := Option.bind_eq_some_iff.mp hf
    refine Rt.path ok_Proof_put 4 [] rfl trivial ?_
    refine Rt.callV ok_Proof_put rfl ml_Proof_100 [vR 46, vI _] cf_Expressions_addCopy rfl rfl (c_Expressions_addCopy_35_46 d _ _ _ e4) (Nat.le_of_ble_eq_true rfl) ?_
    obtain ⟨g5, e5, hf⟩ := Option.bind_eq_some_iff.mp hf
    refine Rt.path ok_Proof_put 5 [] rfl trivial ?_
    refine Rt.callV ok_Proof_put rfl ml_Proof_104 [vI _] cf_Assertions_noteStep rfl rfl (c_Assertions_noteStep_17 d _ _ _ e5) (Nat.le_of_ble_eq_true rfl) ?_
    cases hf
    refine Rt.path ok_Proof_put 1 [] rfl trivial ?_
    exact Rt.retI ok_Proof_put rfl rfl
  · rw [if_neg h3] at hf
    refine Rt.path ok_Proof_put 1 [0] rfl ⟨⟨h2, h3⟩, trivial⟩ ?_
    cases hf
    refine Rt.path ok_Proof_put 1 [] rfl trivial ?_
    exact Rt.retI ok_Proof_put rfl rfl
def f_Letters_stepWithNumber_44  (g : G2) : Option (Int × G2) :=
  if ir (rI g 43 7) then
  if ir (rI g 43 3) then
  if (rI g 43 3) < (rI g 43 7) then
    if ir (((rI g 43 7) - (rI g 43 3)) - 1) then
    if ir (rI g 43 6) then
    if (((rI g 43 7) - (rI g 43 3)) - 1) < (rI g 43 6) then
      if ir (rI g 33 7) then
      if (rI g 33 7) = 0 then
        bd (f_Proof_put_34_46 (((rI g 43 7) - (rI g 43 3)) - 1) g) fun r9 g9 =>
        some (r9, g9)
      else
        some (0, g)
      else none
    else
      some ((-8), g)
    else none
    else none
  else
    if 0 ≤ ((rI g 43 7) - 1) ∧ ((rI g 43 7) - 1) < 60 then
    bd (f_Proof_stepWith_34 (rA g 44 ((rI g 43 7) - 1)) g) fun r11 g11 =>
    some (r11, g11)
    else none
  else none
  else none
set_option maxHeartbeats 4000000 in
set_option maxRecDepth 100000 in
theorem c_Letters_stepWithNumber_44 (d : Nat)  (g : G2) (r : Int) (g' : G2) (hf : f_Letters_stepWithNumber_44 g = some (r, g')) : C2 (d + 4) m_Letters_stepWithNumber [vR 44] g (some (vI r)) g' := by
  unfold f_Letters_stepWithNumber_44 at hf
  refine C2.of rfl rfl rfl (Nat.le_of_ble_eq_true rfl) ?_
  have h1 : ir (rI g 43 7) := by
    by_cases q : ir (rI g 43 7)
    · exact q
    · rw [if_neg q] at hf; cases hf
  rw [if_pos h1] at hf
  have h2 : ir (rI g 43 3) := by
    by_cases q : ir (rI g 43 3)
    · exact q
    · rw [if_neg q] at hf; cases hf
  rw [if_pos h2] at hf
  by_cases h3 : (rI g 43 3) < (rI g 43 7)
  · rw [if_pos h3] at hf
    refine Rt.path ok_Letters_stepWithNumber 5 [1] rfl ⟨⟨⟨h1, h2⟩, h3⟩, trivial⟩ ?_
    have h4 : ir (((rI g 43 7) - (rI g 43 3)) - 1) := by
      by_cases q : ir (((rI g 43 7) - (rI g 43 3)) - 1)
      · exact q
      · rw [if_neg q] at hf; cases hf
    rw [if_pos h4] at hf
    have h5 : ir (rI g 43 6) := by
      by_cases q : ir (rI g 43 6)
      · exact q
      · rw [if_neg q] at hf; cases hf
    rw [if_pos h5] at hf
    by_cases h6 : (((rI g 43 7) - (rI g 43 3)) - 1) < (rI g 43 6)
    · rw [if_pos h6] at hf
      refine Rt.path ok_Letters_stepWithNumber 12 [1] rfl ⟨⟨⟨h4, h5⟩, h6⟩, trivial⟩ ?_
      have h7 : ir (rI g 33 7) := by
        by_cases q : ir (rI g 33 7)
        · exact q
        · rw [if_neg q] at hf; cases hf
      rw [if_pos h7] at hf
      by_cases h8 : (rI g 33 7) = 0
      · rw [if_pos h8] at hf
        refine Rt.path ok_Letters_stepWithNumber 4 [1] rfl ⟨⟨h7, h8⟩, trivial⟩ ?_
        obtain ⟨r9, g9, e9, hf⟩ := bd_inv hf
        refine Rt.path ok_Letters_stepWithNumber 5 [] rfl trivial ?_
        refine Rt.callV ok_Letters_stepWithNumber rfl ml_Letters_95 [vR 46, vI _] cf_Proof_put rfl rfl (c_Proof_put_34_46 (d + 2) _ _ _ _ e9) (Nat.le_of_ble_eq_true rfl) ?_
        cases hf
        exact Rt.retI ok_Letters_stepWithNumber rfl rfl
      · rw [if_neg h8] at hf
        refine Rt.path ok_Letters_stepWithNumber 4 [0] rfl ⟨⟨h7, h8⟩, trivial⟩ ?_
        cases hf
        refine Rt.path ok_Letters_stepWithNumber 2 [] rfl trivial ?_
        exact Rt.retI ok_Letters_stepWithNumber rfl rfl
    · rw [if_neg h6] at hf
      refine Rt.path ok_Letters_stepWithNumber 12 [0] rfl ⟨⟨⟨h4, h5⟩, (Int.not_lt.mp h6)⟩, trivial⟩ ?_
      cases hf
      refine Rt.path ok_Letters_stepWithNumber 1 [] rfl trivial ?_
      exact Rt.retI ok_Letters_stepWithNumber rfl rfl
  · rw [if_neg h3] at hf
    refine Rt.path ok_Letters_stepWithNumber 5 [0] rfl ⟨⟨⟨h1, h2⟩, (Int.not_lt.mp h3)⟩, trivial⟩ ?_
    have h10 : 0 ≤ ((rI g 43 7) - 1) ∧ ((rI g 43 7) - 1) < 60 := by
      by_cases q : 0 ≤ ((rI g 43 7) - 1) ∧ ((rI g 43 7) - 1) < 60
      · exact q
      · rw [if_neg q] at hf; cases hf
    rw [if_pos h10] at hf
    obtain ⟨r11, g11, e11, hf⟩ := bd_inv hf
    refine Rt.path ok_Letters_stepWithNumber 9 [] rfl ⟨(ix_60 h10), trivial⟩ ?_
    refine Rt.callV ok_Letters_stepWithNumber rfl ml_Letters_87 [vI _] cf_Proof_stepWith rfl rfl (c_Proof_stepWith_34 d _ _ _ _ e11) (Nat.le_of_ble_eq_true rfl) ?_
    cases hf
    exact Rt.retI ok_Letters_stepWithNumber rfl rfl
def b_Letters_takeLetters_44_2_0 (L : Nat → Int → Int → G2 → Option (Int × G2)) (i2 : Int) (i3 : Int) (g : G2) : Option (Int × G2) :=
  if ir i2 then
  if ir (rI g 1 4) then
  if i2 < (rI g 1 4) then
    if 0 ≤ i2 ∧ i2 < 1600 then
    if ir (rA g 2 i2) then
    if (rA g 2 i2) = 63 then
      L 2 i2 0 g
    else
      if (rA g 2 i2) < 65 then
        L 1 0 0 g
      else
        if 90 < (rA g 2 i2) then
          L 1 0 0 g
        else
          L 2 i2 0 g
    else none
    else none
  else
    L 3 0 (rI g 1 3) g
  else none
  else none
def b_Letters_takeLetters_44_2_1 (L : Nat → Int → Int → G2 → Option (Int × G2)) (i2 : Int) (i3 : Int) (g : G2) : Option (Int × G2) :=
  some ((-3), g)
def b_Letters_takeLetters_44_2_2 (L : Nat → Int → Int → G2 → Option (Int × G2)) (i2 : Int) (i3 : Int) (g : G2) : Option (Int × G2) :=
  L 0 (i2 + 1) 0 g
def b_Letters_takeLetters_44_2_3 (L : Nat → Int → Int → G2 → Option (Int × G2)) (i2 : Int) (i3 : Int) (g : G2) : Option (Int × G2) :=
  if ir i3 then
  if ir (rI g 1 4) then
  if i3 < (rI g 1 4) then
    if ir i2 then
    if i2 = 0 then
      if 0 ≤ i3 ∧ i3 < 1600 then
      bd (f_Letters_takeLetter_44 (rA g 2 i3) g) fun r15 g15 =>
      if ir r15 then
      if r15 = 0 then
        if ir (rI g15 43 9) then
        if (rI g15 43 9) = 0 then
          L 4 r15 i3 g15
        else
          bd (f_Letters_stepWithNumber_44 g15) fun r20 g20 =>
          L 4 r20 i3 g20
        else none
      else
        L 4 r15 i3 g15
      else none
      else none
    else
      L 5 i2 0 g
    else none
  else
    L 5 i2 0 g
  else none
  else none
def b_Letters_takeLetters_44_2_4 (L : Nat → Int → Int → G2 → Option (Int × G2)) (i2 : Int) (i3 : Int) (g : G2) : Option (Int × G2) :=
  L 3 i2 (i3 + 1) g
def b_Letters_takeLetters_44_2_5 (L : Nat → Int → Int → G2 → Option (Int × G2)) (i2 : Int) (i3 : Int) (g : G2) : Option (Int × G2) :=
  some (i2, g)
def l_Letters_takeLetters_44_2 : Nat → Nat → Int → Int → G2 → Option (Int × G2)
  | 0 => fun _ _ _ _ => none
  | n + 1 => fun t i2 i3 g => match t with
    | 0 => b_Letters_takeLetters_44_2_0 (l_Letters_takeLetters_44_2 n) i2 i3 g
    | 1 => b_Letters_takeLetters_44_2_1 (l_Letters_takeLetters_44_2 n) i2 i3 g
    | 2 => b_Letters_takeLetters_44_2_2 (l_Letters_takeLetters_44_2 n) i2 i3 g
    | 3 => b_Letters_takeLetters_44_2_3 (l_Letters_takeLetters_44_2 n) i2 i3 g
    | 4 => b_Letters_takeLetters_44_2_4 (l_Letters_takeLetters_44_2 n) i2 i3 g
    | _ => b_Letters_takeLetters_44_2_5 (l_Letters_takeLetters_44_2 n) i2 i3 g
set_option maxHeartbeats 4000000 in
set_option maxRecDepth 100000 in
theorem rl_Letters_takeLetters_44_2 (d : Nat) : ∀ (n : Nat) (i2 : Int) (i3 : Int) (g : G2) (r : Int) (g' : G2), (l_Letters_takeLetters_44_2 n 0 i2 i3 g = some (r, g') → Rt (d + 5) m_Letters_takeLetters 5 [some (vR 44), some (vR 2), some (vI i2), none] [] g (some (vI r)) g') ∧ (l_Letters_takeLetters_44_2 n 1 i2 i3 g = some (r, g') → Rt (d + 5) m_Letters_takeLetters 38 [none, none, none, none] [] g (some (vI r)) g') ∧ (l_Letters_takeLetters_44_2 n 2 i2 i3 g = some (r, g') → Rt (d + 5) m_Letters_takeLetters 41 [some (vR 44), some (vR 2), some (vI i2), none] [] g (some (vI r)) g') ∧ (l_Letters_takeLetters_44_2 n 3 i2 i3 g = some (r, g') → Rt (d + 5) m_Letters_takeLetters 54 [some (vR 44), some (vR 2), some (vI i2), some (vI i3)] [] g (some (vI r)) g') ∧ (l_Letters_takeLetters_44_2 n 4 i2 i3 g = some (r, g') → Rt (d + 5) m_Letters_takeLetters 93 [some (vR 44), some (vR 2), some (vI i2), some (vI i3)] [] g (some (vI r)) g') ∧ (l_Letters_takeLetters_44_2 n 5 i2 i3 g = some (r, g') → Rt (d + 5) m_Letters_takeLetters 99 [none, none, some (vI i2), none] [] g (some (vI r)) g') := by
  intro n
  induction n with
  | zero => intro i2 i3 g r g'; exact ⟨fun hf => (by cases hf), fun hf => (by cases hf), fun hf => (by cases hf), fun hf => (by cases hf), fun hf => (by cases hf), fun hf => (by cases hf)⟩
  | succ n ih =>
    intro i2 i3 g r g'
    refine ⟨?_, ?_, ?_, ?_, ?_, ?_⟩
    · intro hf
      replace hf : b_Letters_takeLetters_44_2_0 (l_Letters_takeLetters_44_2 n) i2 i3 g = some (r, g') := hf
      unfold b_Letters_takeLetters_44_2_0 at hf
      have h1 : ir i2 := by
        by_cases q : ir i2
        · exact q
        · rw [if_neg q] at hf; cases hf
      rw [if_pos h1] at hf
      have h2 : ir (rI g 1 4) := by
        by_cases q : ir (rI g 1 4)
        · exact q
        · rw [if_neg q] at hf; cases hf
      rw [if_pos h2] at hf
      by_cases h3 : i2 < (rI g 1 4)
      · rw [if_pos h3] at hf
        refine Rt.path ok_Letters_takeLetters 4 [0] rfl ⟨⟨⟨h1, h2⟩, h3⟩, trivial⟩ ?_
        have h4 : 0 ≤ i2 ∧ i2 < 1600 := by
          by_cases q : 0 ≤ i2 ∧ i2 < 1600
          · exact q
          · rw [if_neg q] at hf; cases hf
        rw [if_pos h4] at hf
        have h5 : ir (rA g 2 i2) := by
          by_cases q : ir (rA g 2 i2)
          · exact q
          · rw [if_neg q] at hf; cases hf
        rw [if_pos h5] at hf
        by_cases h6 : (rA g 2 i2) = 63
        · rw [if_pos h6] at hf
          refine Rt.path ok_Letters_takeLetters 8 [1] rfl ⟨(ix_1600 h4), ⟨⟨h5, (show ir 63 by decide)⟩, h6⟩, trivial⟩ ?_
          exact Rt.weak ((ih _ _ _ _ _).2.2.1 hf) ⟨rfl, rfl, rfl, trivial⟩
        · rw [if_neg h6] at hf
          refine Rt.path ok_Letters_takeLetters 8 [0] rfl ⟨(ix_1600 h4), ⟨⟨h5, (show ir 63 by decide)⟩, h6⟩, trivial⟩ ?_
          by_cases h7 : (rA g 2 i2) < 65
          · rw [if_pos h7] at hf
            refine Rt.path ok_Letters_takeLetters 3 [1] rfl ⟨⟨⟨h5, (show ir 65 by decide)⟩, h7⟩, trivial⟩ ?_
            exact Rt.weak ((ih _ _ _ _ _).2.1 hf) trivial
          · rw [if_neg h7] at hf
            refine Rt.path ok_Letters_takeLetters 3 [0] rfl ⟨⟨⟨h5, (show ir 65 by decide)⟩, (Int.not_lt.mp h7)⟩, trivial⟩ ?_
            by_cases h8 : 90 < (rA g 2 i2)
            · rw [if_pos h8] at hf
              refine Rt.path ok_Letters_takeLetters 3 [0] rfl ⟨⟨⟨h5, (show ir 90 by decide)⟩, h8⟩, trivial⟩ ?_
              exact Rt.weak ((ih _ _ _ _ _).2.1 hf) trivial
            · rw [if_neg h8] at hf
              refine Rt.path ok_Letters_takeLetters 3 [1] rfl ⟨⟨⟨h5, (show ir 90 by decide)⟩, (Int.not_lt.mp h8)⟩, trivial⟩ ?_
              exact Rt.weak ((ih _ _ _ _ _).2.2.1 hf) ⟨rfl, rfl, rfl, trivial⟩
      · rw [if_neg h3] at hf
        refine Rt.path ok_Letters_takeLetters 4 [1] rfl ⟨⟨⟨h1, h2⟩, (Int.not_lt.mp h3)⟩, trivial⟩ ?_
        refine Rt.path ok_Letters_takeLetters 5 [] rfl trivial ?_
        exact Rt.weak ((ih _ _ _ _ _).2.2.2.1 hf) ⟨rfl, rfl, rfl, rfl, trivial⟩
    · intro hf
      replace hf : b_Letters_takeLetters_44_2_1 (l_Letters_takeLetters_44_2 n) i2 i3 g = some (r, g') := hf
      unfold b_Letters_takeLetters_44_2_1 at hf
      cases hf
      refine Rt.path ok_Letters_takeLetters 1 [] rfl trivial ?_
      exact Rt.retI ok_Letters_takeLetters rfl rfl
    · intro hf
      replace hf : b_Letters_takeLetters_44_2_2 (l_Letters_takeLetters_44_2 n) i2 i3 g = some (r, g') := hf
      unfold b_Letters_takeLetters_44_2_2 at hf
      refine Rt.path ok_Letters_takeLetters 2 [] rfl trivial ?_
      exact Rt.weak ((ih _ _ _ _ _).1 hf) ⟨rfl, rfl, rfl, trivial⟩
    · intro hf
      replace hf : b_Letters_takeLetters_44_2_3 (l_Letters_takeLetters_44_2 n) i2 i3 g = some (r, g') := hf
      unfold b_Letters_takeLetters_44_2_3 at hf
      have h9 : ir i3 := by
        by_cases q : ir i3
        · exact q
        · rw [if_neg q] at hf; cases hf
      rw [if_pos h9] at hf
      have h10 : ir (rI g 1 4) := by
        by_cases q : ir (rI g 1 4)
        · exact q
        · rw [if_neg q] at hf; cases hf
      rw [if_pos h10] at hf
      by_cases h11 : i3 < (rI g 1 4)
      · rw [if_pos h11] at hf
        refine Rt.path ok_Letters_takeLetters 4 [0] rfl ⟨⟨⟨h9, h10⟩, h11⟩, trivial⟩ ?_
        have h12 : ir i2 := by
          by_cases q : ir i2
          · exact q
          · rw [if_neg q] at hf; cases hf
        rw [if_pos h12] at hf
        by_cases h13 : i2 = 0
        · rw [if_pos h13] at hf
          refine Rt.path ok_Letters_takeLetters 2 [0] rfl ⟨⟨h12, h13⟩, trivial⟩ ?_
          have h14 : 0 ≤ i3 ∧ i3 < 1600 := by
            by_cases q : 0 ≤ i3 ∧ i3 < 1600
            · exact q
            · rw [if_neg q] at hf; cases hf
          rw [if_pos h14] at hf
          obtain ⟨r15, g15, e15, hf⟩ := bd_inv hf
          refine Rt.path ok_Letters_takeLetters 5 [] rfl ⟨(ix_1600 h14), trivial⟩ ?_
          refine Rt.callV ok_Letters_takeLetters rfl ml_Letters_70 [vI _] cf_Letters_takeLetter rfl rfl (c_Letters_takeLetter_44 (d + 1) _ _ _ _ e15) (Nat.le_of_ble_eq_true rfl) ?_
          have h16 : ir r15 := by
            by_cases q : ir r15
            · exact q
            · rw [if_neg q] at hf; cases hf
          rw [if_pos h16] at hf
          by_cases h17 : r15 = 0
          · rw [if_pos h17] at hf
            refine Rt.path ok_Letters_takeLetters 3 [0] rfl ⟨⟨h16, h17⟩, trivial⟩ ?_
            have h18 : ir (rI g15 43 9) := by
              by_cases q : ir (rI g15 43 9)
              · exact q
              · rw [if_neg q] at hf; cases hf
            rw [if_pos h18] at hf
            by_cases h19 : (rI g15 43 9) = 0
            · rw [if_pos h19] at hf
              refine Rt.path ok_Letters_takeLetters 3 [1] rfl ⟨⟨h18, h19⟩, trivial⟩ ?_
              exact Rt.weak ((ih _ _ _ _ _).2.2.2.2.1 hf) ⟨rfl, rfl, rfl, rfl, trivial⟩
            · rw [if_neg h19] at hf
              refine Rt.path ok_Letters_takeLetters 3 [0] rfl ⟨⟨h18, h19⟩, trivial⟩ ?_
              obtain ⟨r20, g20, e20, hf⟩ := bd_inv hf
              refine Rt.path ok_Letters_takeLetters 1 [] rfl trivial ?_
              refine Rt.callV ok_Letters_takeLetters rfl ml_Letters_74 [] cf_Letters_stepWithNumber rfl rfl (c_Letters_stepWithNumber_44 d _ _ _ e20) (Nat.le_of_ble_eq_true rfl) ?_
              refine Rt.path ok_Letters_takeLetters 1 [] rfl trivial ?_
              exact Rt.weak ((ih _ _ _ _ _).2.2.2.2.1 hf) ⟨rfl, rfl, rfl, rfl, trivial⟩
          · rw [if_neg h17] at hf
            refine Rt.path ok_Letters_takeLetters 3 [1] rfl ⟨⟨h16, h17⟩, trivial⟩ ?_
            exact Rt.weak ((ih _ _ _ _ _).2.2.2.2.1 hf) ⟨rfl, rfl, rfl, rfl, trivial⟩
        · rw [if_neg h13] at hf
          refine Rt.path ok_Letters_takeLetters 2 [1] rfl ⟨⟨h12, h13⟩, trivial⟩ ?_
          exact Rt.weak ((ih _ _ _ _ _).2.2.2.2.2 hf) ⟨rfl, trivial⟩
      · rw [if_neg h11] at hf
        refine Rt.path ok_Letters_takeLetters 4 [1] rfl ⟨⟨⟨h9, h10⟩, (Int.not_lt.mp h11)⟩, trivial⟩ ?_
        exact Rt.weak ((ih _ _ _ _ _).2.2.2.2.2 hf) ⟨rfl, trivial⟩
    · intro hf
      replace hf : b_Letters_takeLetters_44_2_4 (l_Letters_takeLetters_44_2 n) i2 i3 g = some (r, g') := hf
      unfold b_Letters_takeLetters_44_2_4 at hf
      refine Rt.path ok_Letters_takeLetters 2 [] rfl trivial ?_
      exact Rt.weak ((ih _ _ _ _ _).2.2.2.1 hf) ⟨rfl, rfl, rfl, rfl, trivial⟩
    · intro hf
      replace hf : b_Letters_takeLetters_44_2_5 (l_Letters_takeLetters_44_2 n) i2 i3 g = some (r, g') := hf
      unfold b_Letters_takeLetters_44_2_5 at hf
      cases hf
      refine Rt.path ok_Letters_takeLetters 1 [] rfl trivial ?_
      exact Rt.retI ok_Letters_takeLetters rfl rfl
def f_Letters_takeLetters_44_2  (g : G2) : Option (Int × G2) :=
  l_Letters_takeLetters_44_2 20000 0 (rI g 1 3) 0 g
set_option maxHeartbeats 4000000 in
set_option maxRecDepth 100000 in
theorem c_Letters_takeLetters_44_2 (d : Nat)  (g : G2) (r : Int) (g' : G2) (hf : f_Letters_takeLetters_44_2 g = some (r, g')) : C2 (d + 5) m_Letters_takeLetters [vR 44, vR 2] g (some (vI r)) g' := by
  unfold f_Letters_takeLetters_44_2 at hf
  refine C2.of rfl rfl rfl (Nat.le_of_ble_eq_true rfl) ?_
  refine Rt.path ok_Letters_takeLetters 3 [] rfl trivial ?_
  exact Rt.weak ((rl_Letters_takeLetters_44_2 d _ _ _ _ _ _).1 hf) ⟨rfl, rfl, rfl, trivial⟩
