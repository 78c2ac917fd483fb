theorem MRes.ok {ws : List (List Int)} {b : Bool} {S S' : RSt} {j : Nat} {l : List Int} {ts : List (Nat × List Int)} {o : Option G2} (hw : wordS S l = .ok S') (h : MRes ws b S' ts o) : MRes ws b S ((j, l) :: ts) o := by
  obtain ⟨g3, e1, e2⟩ := h
  refine ⟨g3, e1, ?_⟩
  rw [run_ok hw]
  rcases e2 with e2 | ⟨S2, ts2, e2, e3, e4, e5⟩
  · exact Or.inl e2
  · exact Or.inr ⟨S2, ts2, e2, e3, e4, by rw [List.length_cons]; omega⟩
theorem fnd_ir {S : RSt} (h : S.nms.length ≤ 60) (c : Int64) : -1 ≤ fnd S c ∧ fnd S c < 60 := by
  rcases fnd_cases S c with z | ⟨u, x, z1, z2, _⟩ <;> omega
theorem stage0_rep {S : RSt} {g : G2} (h : MRep S g) : MRep (S.uStage 0) g := ⟨h.1, h.2.1, fun z => absurd z (by show ¬ 0 = 3; decide), fun z => absurd z (by show ¬ (0 = 6 ∨ 0 = 7 ∨ 9 ≤ 0); decide), fun z => absurd z (by show ¬ 10 ≤ 0; decide), fun z => absurd z (by show ¬ 12 ≤ 0; decide)⟩
theorem m_varsL {ws : List (List Int)} {b : Bool} : ∀ (ts : List (Nat × List Int)) (S : RSt) (g : G2) (m : Nat), MGo ws b S ts g → S.stage = 2 → 5 * ts.length + 5 < m → MRes ws b S ts (l_M_readVariables_50 m 0 (S.taken : Int) 0 0 g) := by
  intro ts
  induction ts with
  | nil =>
    intro S g m h hs hm
    obtain ⟨m, rfl⟩ : ∃ m', m = m' + 2 := ⟨m - 2, by omega⟩
    have h6 := h.2.2.2.2.2.1
    rcases m_need h (by omega) with ⟨g', a1, a2, a3⟩ | ⟨j, l, ts', g', a0, _⟩
    · refine ⟨g', ?_, Or.inl a2⟩
      rw [show m + 2 = (m + 1) + 1 by omega, s_M_readVariables_50_0]
      unfold b_M_readVariables_50_0
      rw [if_pos (by omega), if_pos h6, bd_some a1, if_pos (by decide), if_neg (by decide), s_M_readVariables_50_1]
      unfold b_M_readVariables_50_1
      rw [if_pos (by decide), if_neg (by decide), a2.fail]
      rfl
    · cases a0
  | cons t ts ih =>
    intro S g m h hs hm
    rw [List.length_cons] at hm
    obtain ⟨m, rfl⟩ : ∃ m', m = m' + 6 := ⟨m - 6, by omega⟩
    have h6 := h.2.2.2.2.2.1
    have hi := h.2.2.1
    have n60 := hi.1.1
    have htk : S.taken ≤ 64 := by have := hi.2.2.2.2.2.1.2.1 hs; have := cnt_le (tb S.vars) 64; omega
    rw [show m + 6 = (m + 5) + 1 by omega, s_M_readVariables_50_0]
    unfold b_M_readVariables_50_0
    rw [if_pos (by omega), if_pos h6]
    rcases m_need h (by omega) with ⟨g', a1, a2, a3⟩ | ⟨j, l, ts', g1, a0, a1, a2, a3, a4, a5, a6, a7, a8, a9, a10, a11⟩
    · refine ⟨g', ?_, Or.inl a2⟩
      rw [bd_some a1, if_pos (by decide), if_neg (by decide), show m + 5 = (m + 4) + 1 by omega, s_M_readVariables_50_1]
      unfold b_M_readVariables_50_1
      rw [if_pos (by decide), if_neg (by decide), a2.fail]
      rfl
    · injection a0 with a01 a02
      subst a02
      subst a01
      have hwh := wh_ir l
      rw [bd_some a1, if_pos (by omega)]
      have hbad : whOf l ≠ 0 → wordS S l = .error (-3) → MRes ws b S ((j, l) :: ts) (l_M_readVariables_50 (m + 5) 1 (S.taken : Int) (whOf l) 0 g1) := by
        intro q0 hw
        obtain ⟨g2, b1, b2, b3⟩ := m_bad (b := b) (ts := ts) hw (by decide) a7.1 a8 a10
        refine ⟨g2, ?_, Or.inl b2⟩
        rw [show m + 5 = (m + 4) + 1 by omega, s_M_readVariables_50_1]
        unfold b_M_readVariables_50_1
        rw [if_pos (by omega), if_neg q0, b1]
        rfl
      by_cases q9 : whOf l = 9
      · have hk := (wh9.mp q9).2
        have hw0 : whOf l ≠ 0 := by omega
        rw [if_pos q9, if_pos (by omega)]
        by_cases qt : 0 < S.taken
        · have hw : wordS S l = .ok (S.uStage 0) := by
            rw [word_key hw0, hk]
            unfold keyS endNamesS
            rw [if_neg (by omega), if_pos (by omega), if_neg (by rw [if_neg (by omega)]; omega)]
          rw [if_pos (by omega)]
          refine ⟨_, rfl, Or.inr ⟨S.uStage 0, ts, run_ok hw, ?_, rfl, by simp⟩⟩
          obtain ⟨y1, y2⟩ := iv_word hi h.2.2.2.1 hw
          exact ⟨a6.sf (SF.i (Or.inl rfl)), (stage0_rep a7).sf (SF.i (Or.inl rfl)), y1, y2, at_next a4 a11 a10, a8, a9⟩
        · rw [if_neg (by omega)]
          exact hbad hw0 (by
            rw [word_key hw0, hk]
            unfold keyS endNamesS
            rw [if_neg (by omega), if_pos (by omega), if_pos (Or.inr (by rw [if_neg (by omega)]; omega))])
      · rw [if_neg q9]
        by_cases q0 : whOf l = 0
        · rw [q0, show m + 5 = (m + 4) + 1 by omega, s_M_readVariables_50_1]
          unfold b_M_readVariables_50_1
          have hw1 : wordS S l = declareVariableS S (cdOf l) := by
            rw [word_name q0 a3]
            unfold nameS
            rw [if_neg (by omega), if_neg (by omega), if_pos hs]
          have hfir := fnd_ir n60 (cdOf l)
          rw [if_pos (by decide), if_pos rfl, bd_some (m_findWord a7.1.1 n60 a6 a4 a10), if_pos (by omega)]
          have fin5 : ∀ (p : Nat) (g2 : G2), MFin (rn ws b S ((j, l) :: ts)) g2 → MRes ws b S ((j, l) :: ts) (l_M_readVariables_50 (p + 2) 5 (S.taken : Int) 0 0 g2) := by
            intro p g2 hf
            refine ⟨gI g2 49 5 ((rI g2 49 5) + 1), ?_, Or.inl (hf.w _)⟩
            rw [show p + 2 = (p + 1) + 1 by omega, s_M_readVariables_50_5]
            unfold b_M_readVariables_50_5
            rw [s_M_readVariables_50_0]
            unfold b_M_readVariables_50_0
            have e6 : rI (gI g2 49 5 ((rI g2 49 5) + 1)) 49 6 = rI g2 49 6 := rfl
            rw [e6, if_pos hf.ne.2, if_neg hf.ne.1]
          have nam : wordS S l = .error (-4) → MRes ws b S ((j, l) :: ts) (l_M_readVariables_50 (m + 4) 2 (S.taken : Int) 0 0 g1) := by
            intro hw
            obtain ⟨g2, b1, b2, b3⟩ := m_bad (b := b) (ts := ts) hw (by decide) a7.1 a8 a10
            rw [show m + 4 = (m + 3) + 1 by omega, s_M_readVariables_50_2]
            unfold b_M_readVariables_50_2
            rw [b1]
            exact fin5 (m + 1) g2 b2
          have h8 := a7.1.1.1
          obtain ⟨⟨⟨n1, n2⟩, ⟨s1, s2⟩, ⟨t1, t2⟩⟩, ⟨x1, xv, xh, xp⟩, _, _, _, _⟩ := a7
          -- the variable u becomes active
          have key : ∀ (S' : RSt) (g2 : G2), wordS S l = .ok S' → S'.2.2 = (S.uTaken (S.taken + 1)).2.2 → WM g2 ws → MKm S' g2 → MX S' g2 → rI g2 49 5 = (j : Int) → rI g2 49 6 = 0 → rI g2 49 7 = -1 → MRes ws b S ((j, l) :: ts) (l_M_readVariables_50 (m + 2) 5 (S.taken : Int) 0 0 g2) := by
            intro S' g2 hw e2 w1 w2 w3 w5 w6 w7
            obtain ⟨y1, y2⟩ := iv_word hi h.2.2.2.1 hw
            have hst : S'.stage = 2 := by show S'.2.2.1.1 = 2; rw [e2]; exact hs
            have htk' : S'.taken = S.taken + 1 := by show S'.2.2.1.2.1 = _; rw [e2]
            rw [show m + 2 = (m + 1) + 1 by omega, s_M_readVariables_50_5]
            unfold b_M_readVariables_50_5
            have hG : MGo ws b S' ts (gI g2 49 5 ((rI g2 49 5) + 1)) := ⟨w1.sf (SF.i (Or.inl rfl)), (show MRep S' g2 from ⟨w2, w3, fun z => by omega, fun z => by omega, fun z => by omega, fun z => by omega⟩).sf (SF.i (Or.inl rfl)), y1, y2, at_next a4 a11 w5, w6, w7⟩
            have := ih S' _ (m + 1) hG hst (by omega)
            rw [htk'] at this
            exact MRes.ok hw this
          by_cases qf : fnd S (cdOf l) = -1
          · rw [qf, if_pos (by decide), show m + 4 = (m + 3) + 1 by omega, s_M_readVariables_50_3]
            unfold b_M_readVariables_50_3
            rw [if_pos (by decide), if_pos (by decide), if_pos (by omega)]
            by_cases q60 : 60 ≤ S.nms.length
            · have hw : wordS S l = .error (-7) := by
                rw [hw1]; unfold declareVariableS
                rw [if_pos qf, if_pos q60]
              obtain ⟨g2, b1, b2, b3⟩ := m_bad (b := b) (ts := ts) hw (by decide) (show MKm S g1 from ⟨⟨n1, n2⟩, ⟨s1, s2⟩, ⟨t1, t2⟩⟩) a8 a10
              rw [if_pos (by omega), b1]
              exact fin5 (m + 1) g2 b2
            · have hw : wordS S l = .ok ((((S.uNms (S.nms ++ [(cdOf l, 1, 0)])).uNvs (S.nvs ||| bit S.nms.length)).uVars (S.vars ||| bit S.nms.length)).uTaken (S.taken + 1)) := by
                rw [hw1]; unfold declareVariableS
                rw [if_pos qf, if_neg q60]
              rw [if_neg (by omega), show m + 3 = (m + 2) + 1 by omega, s_M_readVariables_50_4]
              unfold b_M_readVariables_50_4
              rw [if_pos (by decide), if_pos (by decide), a10, bd_some (m_code a6 a4)]
              unfold f_M_addName_50
              rw [if_pos (by omega)]
              have er : (((rI g1 49 8) + 1) - 1) = (S.nms.length : Int) := by omega
              have en : (rI g1 49 8).toNat = S.nms.length := by rw [h8, Int.toNat_natCast]
              show MRes ws b S ((j, l) :: ts) (if 0 ≤ (((rI g1 49 8) + 1) - 1) ∧ (((rI g1 49 8) + 1) - 1) < 60 then l_M_readVariables_50 (m + 2) 5 (S.taken : Int) 0 0 (gA (gA (gA (gI (gA (gA (gA (gB g1 53 (rI g1 49 8) (cdOf l)) 54 (rI g1 49 8) 0) 55 (rI g1 49 8) 0) 57 (rI g1 49 8) (-1)) 49 8 ((rI g1 49 8) + 1)) 54 (((rI g1 49 8) + 1) - 1) 2) 55 (((rI g1 49 8) + 1) - 1) 1) 56 (((rI g1 49 8) + 1) - 1) (rI g1 49 14)) else none)
              rw [if_pos (by omega), er]
              have hv0 : ∀ (v ty hy : Int64), FrOk S v ty hy → tb v S.nms.length = false := by
                intro v ty hy hf
                cases hq : tb v S.nms.length with
                | false => rfl
                | true => have := (hf.1 _ (by omega) hq).1; omega
              refine key _ _ hw rfl a6 ⟨⟨?_, fun i x hx => ?_⟩, ⟨s1, fun k s hk => ?_⟩, ⟨t1, t2⟩⟩ ⟨x1, fun v hv => ?_, xh, xp⟩ a10 a8 a9
              · show rI g1 49 8 + 1 = _
                rw [h8]; exact len1 _ _
              · show am_upd (g1.2.2.2 53) (rI g1 49 8).toNat (cdOf l) i = _ ∧ am_upd (am_upd (g1.2.2.1 54) (rI g1 49 8).toNat 0) S.nms.length 2 i = _ ∧ am_upd (g1.2.2.1 57) (rI g1 49 8).toNat (-1) i = _
                rw [en]
                rcases ap_get hx with ⟨z1, z2⟩ | ⟨z1, z2⟩
                · rw [am_updN (by omega), am_updN (by omega), am_updN (by omega), am_updN (by omega)]; exact n2 i x z2
                · subst z1; subst z2
                  rw [updN_at, updN_at, updN_at]; exact ⟨rfl, rfl, rfl⟩
              · obtain ⟨z1, ⟨d, x, d1, d2, d3⟩, z3⟩ := s2 k s hk
                exact ⟨z1, ⟨d, x, app_ext _ _ d x d1, d2, d3⟩, z3⟩
              · have hv2 : v < (S.nms ++ [(cdOf l, 1, 0)]).length := hv
                rw [List.length_append] at hv2
                have hv3 : v < S.nms.length + 1 := hv2
                show am_upd (am_upd (g1.2.2.1 55) (rI g1 49 8).toNat 0) S.nms.length 1 v = b01 (tb (S.vars ||| bit S.nms.length) v) ∧ (tb (S.vars ||| bit S.nms.length) v = true → 0 ≤ am_upd (g1.2.2.1 56) S.nms.length (rI g1 49 14) v ∧ am_upd (g1.2.2.1 56) S.nms.length (rI g1 49 14) v ≤ (S.out.length : Int)) ∧ ∀ (t : Nat) (o : Int64 × Int64 × Int64 × Nat), S.out[t]? = some o → (tb o.1 v = true ↔ tb (S.vars ||| bit S.nms.length) v = true ∧ am_upd (g1.2.2.1 56) S.nms.length (rI g1 49 14) v ≤ (t : Int))
                rw [tb_orbit (by omega) (by omega)]
                by_cases hvn : v = S.nms.length
                · subst hvn
                  rw [updN_at, updN_at, decide_eq_true rfl, Bool.or_true, x1]
                  refine ⟨rfl, fun _ => ⟨by omega, by omega⟩, fun t o ho => ?_⟩
                  have z1 := hv0 _ _ _ (hi.2.2.2.1.2 t o ho).1
                  have := lt_get ho
                  rw [z1]
                  constructor
                  · intro w; cases w
                  · intro w; omega
                · rw [am_updN hvn, en, am_updN hvn, am_updN hvn, decide_eq_false hvn, Bool.or_false]; exact xv v (by omega)
          · rcases fnd_cases S (cdOf l) with z | ⟨u, x, z1, z2, z3, z4⟩
            · exact absurd z qf
            · have e54 : rA g1 54 ((u : Nat) : Int) = (((x.role + 1) % 3 : Nat) : Int) := (n2 u x z3).2.1
              have e55 : rA g1 55 ((u : Nat) : Int) = b01 (tb S.vars u) := (xv u z2).1
              have r2 := (hi.2.1 u x z3).1
              rw [z1, if_neg (by omega), if_pos (by omega), e54, if_pos (by omega)]
              have hw2 : wordS S l = if x.role ≠ 1 ∨ tb S.vars u = true then .error (-4) else .ok ((S.uVars (S.vars ||| bit u)).uTaken (S.taken + 1)) := by
                rw [hw1]; unfold declareVariableS
                rw [if_neg qf, z1, Int.toNat_natCast, rol_get z3]
              by_cases r1 : x.role = 1
              · rw [if_pos (by rw [r1]; rfl), e55, if_pos (b01_ir _)]
                cases hb : tb S.vars u with
                | true =>
                  rw [if_neg (by decide)]
                  exact nam (by rw [hw2, if_pos (Or.inr hb)])
                | false =>
                  have hw : wordS S l = .ok ((S.uVars (S.vars ||| bit u)).uTaken (S.taken + 1)) := by rw [hw2, if_neg (by rw [hb]; simp [r1])]
                  rw [if_pos (by decide), show m + 4 = (m + 3) + 1 by omega, s_M_readVariables_50_3]
                  unfold b_M_readVariables_50_3
                  rw [if_pos (by omega), if_neg (by omega), show m + 3 = (m + 2) + 1 by omega, s_M_readVariables_50_4]
                  unfold b_M_readVariables_50_4
                  rw [if_pos (by omega), if_neg (by omega), if_pos (by omega)]
                  refine key _ _ hw rfl a6 ⟨⟨n1, fun i y hy => ?_⟩, ⟨s1, s2⟩, ⟨t1, t2⟩⟩ ⟨x1, fun v hv => ?_, xh, xp⟩ a10 a8 a9
                  · obtain ⟨w1, w2, w3⟩ := n2 i y hy
                    refine ⟨w1, ?_, w3⟩
                    show am_upd (g1.2.2.1 54) u 2 i = _
                    by_cases hiu : i = u
                    · subst hiu
                      have hy2 : S.nms[i]? = some y := hy
                      rw [z3] at hy2
                      injection hy2 with hy2
                      subst hy2
                      rw [updN_at, r1]; rfl
                    · rw [am_updN hiu]; exact w2
                  · have hv2 : v < S.nms.length := hv
                    show am_upd (g1.2.2.1 55) u 1 v = b01 (tb (S.vars ||| bit u) v) ∧ (tb (S.vars ||| bit u) v = true → 0 ≤ am_upd (g1.2.2.1 56) u (rI g1 49 14) v ∧ am_upd (g1.2.2.1 56) u (rI g1 49 14) v ≤ (S.out.length : Int)) ∧ ∀ (t : Nat) (o : Int64 × Int64 × Int64 × Nat), S.out[t]? = some o → (tb o.1 v = true ↔ tb (S.vars ||| bit u) v = true ∧ am_upd (g1.2.2.1 56) u (rI g1 49 14) v ≤ (t : Int))
                    rw [tb_orbit (by omega) (by omega)]
                    by_cases hvn : v = u
                    · subst hvn
                      rw [updN_at, updN_at, decide_eq_true rfl, Bool.or_true, x1]
                      refine ⟨rfl, fun _ => ⟨by omega, by omega⟩, fun t o ho => ?_⟩
                      have q := (xv v z2).2.2 t o ho
                      rw [hb] at q
                      have := lt_get ho
                      rw [q]
                      constructor
                      · rintro ⟨w, _⟩; cases w
                      · intro w; omega
                    · rw [am_updN hvn, am_updN hvn, decide_eq_false hvn, Bool.or_false]; exact xv v hv2
              · rw [if_neg (by omega)]
                exact nam (by rw [hw2, if_pos (Or.inl r1)])
        · exact hbad q0 (by
            rw [word_key q0]
            unfold keyS endNamesS
            have hk : kwOf l ≠ 46 := fun z => q9 (wh9.mpr ⟨Classical.byContradiction (fun w => q0 (wh0.mpr w)), z⟩)
            rw [if_neg (by omega), if_pos (by omega), if_pos (Or.inl hk)])
