/-! ===== the model: constants and variables ===== -/
def MRes (ws : List (List Int)) (b : Bool) (S : RSt) (ts : List (Nat × List Int)) (o : Option G2) : Prop := ∃ g', o = some g' ∧ (MFin (rn ws b S ts) g' ∨ ∃ (S' : RSt) (ts' : List (Nat × List Int)), rn ws b S ts = rn ws b S' ts' ∧ MGo ws b S' ts' g' ∧ S'.stage = 0 ∧ ts'.length < ts.length)
theorem MFin.w {r : Int × Int × RSt} {g : G2} (h : MFin r g) (v : Int) : MFin r (gI g 49 5 v) := ⟨h.1, h.2.1, h.2.2.1, h.2.2.2.1, h.2.2.2.2.sf (SF.i (Or.inl rfl))⟩
theorem MFin.ne {r : Int × Int × RSt} {g : G2} (h : MFin r g) : rI g 49 6 ≠ 0 ∧ ir (rI g 49 6) := by
  obtain ⟨h1, h2, h3, _⟩ := h
  exact ⟨by omega, by omega⟩
theorem MFin.fail {r : Int × Int × RSt} {g : G2} (h : MFin r g) (f p : Int) : f_M_fail_50 f p g = some g := m_fail1 h.ne.1 h.ne.2 f p
theorem at_next {ws : List (List Int)} {b : Bool} {j : Nat} {l : List Int} {ts' : List (Nat × List Int)} {g : G2} (hj : ws[j]? = some l) (ht : toks (j + 1) false (ws.drop (j + 1)) = (ts', b)) (h5 : rI g 49 5 = (j : Int)) : At (gI g 49 5 ((rI g 49 5) + 1)) ws ts' b := ⟨j + 1, by show rI g 49 5 + 1 = _; rw [h5]; rfl, lt_get hj, ht⟩
theorem m_constL {ws : List (List Int)} {b : Bool} : ∀ (ts : List (Nat × List Int)) (S : RSt) (g : G2) (m : Nat), MGo ws b S ts g → S.stage = 1 → 3 * ts.length + 5 < m → MRes ws b S ts (l_M_readConstants_50 m 0 (S.taken : Int) 0 g) := by
  intro ts
  induction ts with
  | nil =>
    intro S g m h hs hm
    obtain ⟨m, rfl⟩ : ∃ m', m = m' + 2 := ⟨m - 2, by omega⟩
    have h6 := h.2.2.2.2.2.1
    rcases m_need h (by omega) with ⟨g', a1, a2, a3⟩ | ⟨j, l, ts', g', a0, _⟩
    · refine ⟨g', ?_, Or.inl a2⟩
      rw [show m + 2 = (m + 1) + 1 by omega, s_M_readConstants_50_0]
      unfold b_M_readConstants_50_0
      rw [if_pos (by omega), if_pos h6, bd_some a1, if_pos (by decide), if_neg (by decide), s_M_readConstants_50_1]
      unfold b_M_readConstants_50_1
      rw [if_pos (by decide), if_neg (by decide), a2.fail]
      rfl
    · cases a0
  | cons t ts ih =>
    intro S g m h hs hm
    rw [List.length_cons] at hm
    obtain ⟨m, rfl⟩ : ∃ m', m = m' + 4 := ⟨m - 4, by omega⟩
    have h6 := h.2.2.2.2.2.1
    have hi := h.2.2.1
    have n60 := hi.1.1
    have htk : S.taken ≤ 60 := by have := hi.2.2.2.2.2.1.1 hs; omega
    rw [show m + 4 = (m + 3) + 1 by omega, s_M_readConstants_50_0]
    unfold b_M_readConstants_50_0
    rw [if_pos (by omega), if_pos h6]
    rcases m_need h (by omega) with ⟨g', a1, a2, a3⟩ | ⟨j, l, ts', g1, a0, a1, a2, a3, a4, a5, a6, a7, a8, a9, a10, a11⟩
    · refine ⟨g', ?_, Or.inl a2⟩
      rw [bd_some a1, if_pos (by decide), if_neg (by decide), show m + 3 = (m + 2) + 1 by omega, s_M_readConstants_50_1]
      unfold b_M_readConstants_50_1
      rw [if_pos (by decide), if_neg (by decide), a2.fail]
      rfl
    · injection a0 with a01 a02
      subst a02
      subst a01
      have hwh := wh_ir l
      rw [bd_some a1, if_pos (by omega)]
      -- no name: the statement's last word, or a fault
      have hbad : whOf l ≠ 0 → wordS S l = .error (-3) → MRes ws b S ((j, l) :: ts) (l_M_readConstants_50 (m + 3) 1 (S.taken : Int) (whOf l) g1) := by
        intro q0 hw
        obtain ⟨g2, b1, b2, b3⟩ := m_bad (b := b) (ts := ts) hw (by decide) a7.1 a8 a10
        refine ⟨g2, ?_, Or.inl b2⟩
        rw [show m + 3 = (m + 2) + 1 by omega, s_M_readConstants_50_1]
        unfold b_M_readConstants_50_1
        rw [if_pos (by omega), if_neg q0, b1]
        rfl
      by_cases q9 : whOf l = 9
      · have hk := (wh9.mp q9).2
        have hw0 : whOf l ≠ 0 := by omega
        rw [if_pos q9, if_pos (by omega)]
        by_cases qt : 0 < S.taken
        · have hw : wordS S l = .ok (S.uStage 0) := by
            rw [word_key hw0, hk]
            unfold keyS endNamesS
            rw [if_neg (by omega), if_pos (by omega), if_neg (by rw [if_neg (by omega)]; omega)]
          rw [if_pos (by omega)]
          refine ⟨_, rfl, Or.inr ⟨S.uStage 0, ts, run_ok hw, ?_, rfl, by simp⟩⟩
          obtain ⟨y1, y2⟩ := iv_word hi h.2.2.2.1 hw
          have hR0 : MRep (S.uStage 0) g1 := ⟨a7.1, a7.2.1, fun z => absurd z (by show ¬ 0 = 3; decide), fun z => absurd z (by show ¬ (0 = 6 ∨ 0 = 7 ∨ 9 ≤ 0); decide), fun z => absurd z (by show ¬ 10 ≤ 0; decide), fun z => absurd z (by show ¬ 12 ≤ 0; decide)⟩
          exact ⟨a6.sf (SF.i (Or.inl rfl)), hR0.sf (SF.i (Or.inl rfl)), y1, y2, at_next a4 a11 a10, a8, a9⟩
        · rw [if_neg (by omega)]
          exact hbad hw0 (by
            rw [word_key hw0, hk]
            unfold keyS endNamesS
            rw [if_neg (by omega), if_pos (by omega), if_pos (Or.inr (by rw [if_neg (by omega)]; omega))])
      · rw [if_neg q9]
        by_cases q0 : whOf l = 0
        · rw [q0, show m + 3 = (m + 2) + 1 by omega, s_M_readConstants_50_1]
          unfold b_M_readConstants_50_1
          have hw1 : wordS S l = declareConstantS S (cdOf l) := by
            rw [word_name q0 a3]
            unfold nameS
            rw [if_neg (by omega), if_pos hs]
          rw [if_pos (by decide), if_pos rfl, bd_some (m_findWord a7.1.1 n60 a6 a4 a10)]
          -- after a fault the loop ends
          have fin : ∀ g2 : G2, MFin (rn ws b S ((j, l) :: ts)) g2 → MRes ws b S ((j, l) :: ts) (l_M_readConstants_50 (m + 2) 2 (S.taken : Int) 0 g2) := by
            intro g2 hf
            refine ⟨gI g2 49 5 ((rI g2 49 5) + 1), ?_, Or.inl (hf.w _)⟩
            rw [show m + 2 = (m + 1) + 1 by omega, s_M_readConstants_50_2]
            unfold b_M_readConstants_50_2
            rw [s_M_readConstants_50_0]
            unfold b_M_readConstants_50_0
            have e6 : rI (gI g2 49 5 ((rI g2 49 5) + 1)) 49 6 = rI g2 49 6 := rfl
            rw [e6, if_pos hf.ne.2, if_neg hf.ne.1]
          by_cases qf : fnd S (cdOf l) = -1
          · have h8 := a7.1.1.1
            rw [qf, if_pos (by decide), if_pos (by decide), if_pos (by omega)]
            by_cases q60 : 60 ≤ S.nms.length
            · have hw : wordS S l = .error (-7) := by
                rw [hw1]; unfold declareConstantS
                rw [if_neg (fun z => z qf), if_pos q60]
              obtain ⟨g2, b1, b2, b3⟩ := m_bad (b := b) (ts := ts) hw (by decide) a7.1 a8 a10
              rw [if_pos (by omega), b1]
              exact fin g2 b2
            · have hw : wordS S l = .ok (((S.uNms (S.nms ++ [(cdOf l, 0, 0)])).uCst (S.cst + 1)).uTaken (S.taken + 1)) := by
                rw [hw1]; unfold declareConstantS
                rw [if_neg (fun z => z qf), if_neg q60]
              obtain ⟨y1, y2⟩ := iv_word hi h.2.2.2.1 hw
              rw [if_neg (by omega), a10, bd_some (m_code a6 a4)]
              unfold f_M_addName_50
              rw [if_pos (by omega)]
              have er : (((rI g1 49 8) + 1) - 1) = (S.nms.length : Int) := by omega
              have en : (rI g1 49 8).toNat = S.nms.length := by rw [h8, Int.toNat_natCast]
              show MRes ws b S ((j, l) :: ts) (if 0 ≤ (((rI g1 49 8) + 1) - 1) ∧ (((rI g1 49 8) + 1) - 1) < 60 then l_M_readConstants_50 (m + 2) 2 (S.taken : Int) 0 (gA (gI (gA (gA (gA (gB g1 53 (rI g1 49 8) (cdOf l)) 54 (rI g1 49 8) 0) 55 (rI g1 49 8) 0) 57 (rI g1 49 8) (-1)) 49 8 ((rI g1 49 8) + 1)) 54 (((rI g1 49 8) + 1) - 1) 1) else none)
              rw [if_pos (by omega), er, show m + 2 = (m + 1) + 1 by omega, s_M_readConstants_50_2]
              unfold b_M_readConstants_50_2
              obtain ⟨⟨⟨n1, n2⟩, ⟨s1, s2⟩, ⟨t1, t2⟩⟩, ⟨x1, xv, xh, xp⟩, _, _, _, _⟩ := a7
              have hv0 : ∀ (v ty hy : Int64), FrOk S v ty hy → tb v S.nms.length = false := by
                intro v ty hy hf
                cases hq : tb v S.nms.length with
                | false => rfl
                | true => have := (hf.1 _ (by omega) hq).1; omega
              have hG : MGo ws b (((S.uNms (S.nms ++ [(cdOf l, 0, 0)])).uCst (S.cst + 1)).uTaken (S.taken + 1)) ts (gI (gA (gI (gA (gA (gA (gB g1 53 (rI g1 49 8) (cdOf l)) 54 (rI g1 49 8) 0) 55 (rI g1 49 8) 0) 57 (rI g1 49 8) (-1)) 49 8 ((rI g1 49 8) + 1)) 54 (S.nms.length : Int) 1) 49 5 ((rI (gA (gI (gA (gA (gA (gB g1 53 (rI g1 49 8) (cdOf l)) 54 (rI g1 49 8) 0) 55 (rI g1 49 8) 0) 57 (rI g1 49 8) (-1)) 49 8 ((rI g1 49 8) + 1)) 54 (S.nms.length : Int) 1) 49 5) + 1)) := by
                refine ⟨a6, ⟨⟨⟨?_, fun i x hx => ?_⟩, ⟨s1, fun k s hk => ?_⟩, ⟨t1, t2⟩⟩, ⟨x1, fun v hv => ?_, xh, xp⟩, fun z => ?_, fun z => ?_, fun z => ?_, fun z => ?_⟩, y1, y2, at_next a4 a11 a10, a8, a9⟩
                · show rI g1 49 8 + 1 = _
                  rw [h8]; exact len1 _ _
                · show am_upd (g1.2.2.2 53) (rI g1 49 8).toNat (cdOf l) i = _ ∧ am_upd (am_upd (g1.2.2.1 54) (rI g1 49 8).toNat 0) S.nms.length 1 i = _ ∧ am_upd (g1.2.2.1 57) (rI g1 49 8).toNat (-1) i = _
                  rw [en]
                  rcases ap_get hx with ⟨z1, z2⟩ | ⟨z1, z2⟩
                  · rw [am_updN (by omega), am_updN (by omega), am_updN (by omega), am_updN (by omega)]; exact n2 i x z2
                  · subst z1; subst z2
                    rw [updN_at, updN_at, updN_at]; exact ⟨rfl, rfl, rfl⟩
                · obtain ⟨z1, ⟨d, x, d1, d2, d3⟩, z3⟩ := s2 k s hk
                  exact ⟨z1, ⟨d, x, app_ext _ _ d x d1, d2, d3⟩, z3⟩
                · have hv2 : v < (S.nms ++ [(cdOf l, 0, 0)]).length := hv
                  rw [List.length_append] at hv2
                  have hv3 : v < S.nms.length + 1 := hv2
                  show am_upd (g1.2.2.1 55) (rI g1 49 8).toNat 0 v = _ ∧ _ ∧ _
                  rw [en]
                  by_cases hvn : v = S.nms.length
                  · subst hvn
                    have z0 := hv0 _ _ _ hi.2.2.2.1.1
                    refine ⟨by rw [updN_at]; show (0 : Int) = b01 (tb S.vars S.nms.length); rw [z0]; rfl, fun w => ?_, fun t o ho => ?_⟩
                    · have w2 : tb S.vars S.nms.length = true := w
                      rw [z0] at w2; cases w2
                    · have z1 := hv0 _ _ _ (hi.2.2.2.1.2 t o ho).1
                      show tb o.1 S.nms.length = true ↔ tb S.vars S.nms.length = true ∧ _
                      rw [z0, z1]; simp
                  · rw [am_updN hvn]; exact xv v (by omega)
                · have z2 : S.stage = 3 := z
                  omega
                · have z2 : S.stage = 6 ∨ S.stage = 7 ∨ 9 ≤ S.stage := z
                  omega
                · have z2 : 10 ≤ S.stage := z
                  omega
                · have z2 : 12 ≤ S.stage := z
                  omega
              obtain ⟨g3, e1, e2⟩ := ih _ _ (m + 1) hG hs (by omega)
              refine ⟨g3, e1, ?_⟩
              rw [run_ok hw]
              rcases e2 with e2 | ⟨S2, ts2, e2, e3, e4, e5⟩
              · exact Or.inl e2
              · exact Or.inr ⟨S2, ts2, e2, e3, e4, by rw [List.length_cons]; omega⟩
          · have hw : wordS S l = .error (-4) := by
              rw [hw1]; unfold declareConstantS
              rw [if_pos qf]
            obtain ⟨g2, b1, b2, b3⟩ := m_bad (b := b) (ts := ts) hw (by decide) a7.1 a8 a10
            have hfr : 0 ≤ fnd S (cdOf l) ∧ fnd S (cdOf l) < 60 := by
              rcases fnd_cases S (cdOf l) with z | ⟨u, x, z1, z2, _⟩
              · exact absurd z qf
              · omega
            rw [if_pos (by omega), if_neg (by omega), b1]
            exact fin g2 b2
        · exact hbad q0 (by
            rw [word_key q0]
            unfold keyS endNamesS
            have hk : kwOf l ≠ 46 := fun z => q9 (wh9.mpr ⟨Classical.byContradiction (fun w => q0 (wh0.mpr w)), z⟩)
            rw [if_neg (by omega), if_pos (by omega), if_pos (Or.inl hk)])
