/-! ===== the model: an expression's symbols ===== -/
theorem wh8 {l : List Int} : whOf l = 8 ↔ (36 : Int) ∈ l ∧ kwOf l = 61 := by
  unfold whOf
  by_cases q : (36 : Int) ∈ l
  · rw [if_pos q]
    by_cases q1 : kwOf l = 46
    · rw [if_pos q1]
      constructor
      · intro h; exact absurd h (by decide)
      · intro h; omega
    · rw [if_neg q1]
      by_cases q2 : kwOf l = 61
      · rw [if_pos q2]; simp [q, q2]
      · rw [if_neg q2]
        constructor
        · intro h; exfalso; revert h; repeat' split
          all_goals decide
        · intro h; exact absurd h.2 q2
  · rw [if_neg q]
    constructor
    · intro h; exact absurd h (by decide)
    · intro h; exact absurd h.1 q
/-- an expression is read: its last word is behind the model's place -/
def MExp (ws : List (List Int)) (b : Bool) (S : RSt) (ts : List (Nat × List Int)) (g' : G2) : Prop := ∃ (S' : RSt) (j : Nat) (l : List Int) (ts' : List (Nat × List Int)), rn ws b S ts = rn ws b S' ((j, l) :: ts') ∧ whOf l ≠ 0 ∧ kwOf l = (if S.ckind = 3 then 61 else 46) ∧ WM g' ws ∧ MRep S' g' ∧ Iv S' ∧ Bh S' ∧ S'.stage = 9 ∧ S'.clab = S.clab ∧ S'.ckind = S.ckind ∧ At g' ws ts' b ∧ rI g' 49 6 = 0 ∧ rI g' 49 7 = -1 ∧ ts'.length < ts.length
theorem m_exprL {ws : List (List Int)} {b : Bool} (en : Int) : ∀ (ts : List (Nat × List Int)) (S : RSt) (g : G2) (m : Nat), MGo ws b S ts g → S.stage = 9 → en = (if S.ckind = 3 then 8 else 9) → 4 * ts.length + 6 < m → ∃ (r : Int) (g' : G2), l_M_readExpression_50 m 0 en 0 g = some (r, g') ∧ ((r = 0 ∧ MFin (rn ws b S ts) g') ∨ (r = 1 ∧ MExp ws b S ts g')) := by
  intro ts
  induction ts with
  | nil =>
    intro S g m h hs hen hm
    obtain ⟨m, rfl⟩ : ∃ m', m = m' + 1 := ⟨m - 1, by omega⟩
    have h6 := h.2.2.2.2.2.1
    have hen2 : en = 8 ∨ en = 9 := by rw [hen]; split <;> omega
    rcases m_need h (by omega) with ⟨g', a1, a2, a3⟩ | ⟨j, l, ts', g', a0, _⟩
    · refine ⟨0, g', ?_, Or.inl ⟨rfl, a2⟩⟩
      rw [s_M_readExpression_50_0]
      unfold b_M_readExpression_50_0
      rw [if_pos (by omega), if_pos h6, bd_some a1, if_pos (by decide), if_pos (by omega), if_neg (by omega), if_neg (by decide), a2.fail]
      rfl
    · cases a0
  | cons t ts ih =>
    intro S g m h hs hen hm
    rw [List.length_cons] at hm
    obtain ⟨m, rfl⟩ : ∃ m', m = m' + 4 := ⟨m - 4, by omega⟩
    have h6 := h.2.2.2.2.2.1
    have hi := h.2.2.1
    have n60 := hi.1.1
    have hen2 : en = 8 ∨ en = 9 := by rw [hen]; split <;> omega
    rw [show m + 4 = (m + 3) + 1 by omega, s_M_readExpression_50_0]
    unfold b_M_readExpression_50_0
    rw [if_pos (by omega), if_pos h6]
    rcases m_need h (by omega) with ⟨g', a1, a2, a3⟩ | ⟨j, l, ts', g1, a0, a1, a2, a3, a4, a5, a6, a7, a8, a9, a10, a11⟩
    · refine ⟨0, g', ?_, Or.inl ⟨rfl, a2⟩⟩
      rw [bd_some a1, if_pos (by decide), if_pos (by omega), if_neg (by omega), if_neg (by decide), a2.fail]
      rfl
    · injection a0 with a01 a02
      subst a02
      subst a01
      have hwh := wh_ir l
      rw [bd_some a1, if_pos (by omega), if_pos (by omega)]
      by_cases qe : whOf l = en
      · rw [if_pos qe]
        refine ⟨1, _, rfl, Or.inr ⟨rfl, S, j, l, ts, rfl, by omega, ?_, a6.sf (SF.i (Or.inl rfl)), a7.sf (SF.i (Or.inl rfl)), hi, h.2.2.2.1, hs, rfl, rfl, at_next a4 a11 a10, a8, a9, by rw [List.length_cons]; omega⟩⟩
        rw [hen] at qe
        by_cases q3 : S.ckind = 3
        · rw [if_pos q3] at qe ⊢; exact (wh8.mp qe).2
        · rw [if_neg q3] at qe ⊢; exact (wh9.mp qe).2
      · rw [if_neg qe]
        by_cases q0 : whOf l = 0
        · rw [if_pos q0]
          have hw1 : wordS S l = takeSymbolS S (fnd S (cdOf l)) := by
            rw [word_name q0 a3]
            unfold nameS
            rw [if_neg (by omega), if_neg (by omega), if_neg (by omega), if_neg (by omega), if_neg (by omega), if_neg (by omega), if_neg (by omega), if_pos hs]
          have hC := m_isConst a7.1.1 hi (cdOf l)
          have hL := m_isLive a7.1.1 a7.2.1.2.1 hi (cdOf l)
          obtain ⟨x40, x79⟩ := a7.2.2.2.1 (Or.inr (Or.inr (by omega)))
          have h24 : S.crow.length ≤ 24 := ((hi.2.2.2.2.2.2.1.2.2.2.2.2.2.2.2 (by omega)).1).2.1
          rw [bd_some (m_findWord a7.1.1 n60 a6 a4 a10), bd_some hC, if_pos (b01_ir _)]
          have fin3 : ∀ (p : Nat) (g2 : G2), MFin (rn ws b S ((j, l) :: ts)) g2 → ∃ (r : Int) (g' : G2), l_M_readExpression_50 (p + 2) 3 en 0 g2 = some (r, g') ∧ ((r = 0 ∧ MFin (rn ws b S ((j, l) :: ts)) g') ∨ (r = 1 ∧ MExp ws b S ((j, l) :: ts) g')) := by
            intro p g2 hf
            refine ⟨0, g2, ?_, Or.inl ⟨rfl, hf⟩⟩
            have e3 : l_M_readExpression_50 (p + 2) 3 en 0 g2 = l_M_readExpression_50 (p + 1) 0 en 0 g2 := by
              rw [show p + 2 = (p + 1) + 1 by omega, s_M_readExpression_50_3]
              unfold b_M_readExpression_50_3
              rfl
            rw [e3, s_M_readExpression_50_0]
            unfold b_M_readExpression_50_0
            rw [if_pos hf.ne.2, if_neg hf.ne.1]
          have nam : wordS S l = .error (-4) → ∃ (r : Int) (g' : G2), l_M_readExpression_50 (m + 3) 1 en 0 g1 = some (r, g') ∧ ((r = 0 ∧ MFin (rn ws b S ((j, l) :: ts)) g') ∨ (r = 1 ∧ MExp ws b S ((j, l) :: ts) g')) := by
            intro hw
            obtain ⟨g2, b1, b2, b3⟩ := m_bad (ws := ws) (b := b) (ts := ts) hw (by decide) a7.1 a8 a10
            rw [show m + 3 = (m + 2) + 1 by omega, s_M_readExpression_50_1]
            unfold b_M_readExpression_50_1
            rw [b1, Option.bind_some]
            exact fin3 m g2 b2
          have add : ∀ (u : Nat) (x : Int64), (wordS S l = if 24 < S.crow.length + 1 then .error (-7) else .ok ((S.uCrow (S.crow ++ [u])).uCvs x)) → ∃ (r : Int) (g' : G2), l_M_readExpression_50 (m + 3) 2 en (u : Int) g1 = some (r, g') ∧ ((r = 0 ∧ MFin (rn ws b S ((j, l) :: ts)) g') ∨ (r = 1 ∧ MExp ws b S ((j, l) :: ts) g')) := by
            intro u x hw2
            rw [show m + 3 = (m + 2) + 1 by omega, s_M_readExpression_50_2]
            unfold b_M_readExpression_50_2
            rw [if_pos (by omega)]
            by_cases q24 : 24 < S.crow.length + 1
            · have hw : wordS S l = .error (-7) := by rw [hw2, if_pos q24]
              obtain ⟨g2, b1, b2, b3⟩ := m_bad (ws := ws) (b := b) (ts := ts) hw (by decide) a7.1 a8 a10
              rw [if_pos (by omega), b1, Option.bind_some]
              exact fin3 m g2 b2
            · have hw : wordS S l = .ok ((S.uCrow (S.crow ++ [u])).uCvs x) := by rw [hw2, if_neg q24]
              obtain ⟨y1, y2⟩ := iv_word hi h.2.2.2.1 hw
              rw [if_neg (by omega), if_pos (by omega)]
              obtain ⟨hK, hX, _, _, _, _⟩ := a7
              have en40 : (rI g1 49 40).toNat = 0 + S.crow.length := by rw [x40]; omega
              have hR : MRep ((S.uCrow (S.crow ++ [u])).uCvs x) (gI (gA g1 79 (rI g1 49 40) (u : Int)) 49 40 ((rI g1 49 40) + 1)) := by
                refine ⟨hK, hX, fun z => ?_, fun _ => ⟨?_, ?_⟩, fun z => ?_, fun z => ?_⟩
                · have z2 : S.stage = 3 := z
                  omega
                · show rI g1 49 40 + 1 = ((S.crow ++ [u]).length : Int)
                  rw [x40]; exact len1 _ _
                · show RowAt (am_upd (g1.2.2.1 79) (rI g1 49 40).toNat (u : Int)) 0 (S.crow ++ [u])
                  exact x79.app u _ rfl _ en40
                · have z2 : 10 ≤ S.stage := z
                  omega
                · have z2 : 12 ≤ S.stage := z
                  omega
              have hW : WM (gI (gA g1 79 (rI g1 49 40) (u : Int)) 49 40 ((rI g1 49 40) + 1)) ws := a6
              have hG : MGo ws b ((S.uCrow (S.crow ++ [u])).uCvs x) ts (gI (gI (gA g1 79 (rI g1 49 40) (u : Int)) 49 40 ((rI g1 49 40) + 1)) 49 5 ((rI g1 49 5) + 1)) := ⟨hW.sf (SF.i (Or.inl rfl)), hR.sf (SF.i (Or.inl rfl)), y1, y2, at_next (g := gI (gA g1 79 (rI g1 49 40) (u : Int)) 49 40 ((rI g1 49 40) + 1)) a4 a11 a10, a8, a9⟩
              obtain ⟨r, g', c1, c2⟩ := ih _ _ (m + 1) hG hs hen (by omega)
              have e3 : ∀ gg : G2, l_M_readExpression_50 (m + 2) 3 en 0 gg = l_M_readExpression_50 (m + 1) 0 en 0 gg := by
                intro gg
                rw [show m + 2 = (m + 1) + 1 by omega, s_M_readExpression_50_3]
                unfold b_M_readExpression_50_3
                rfl
              refine ⟨r, g', by rw [e3]; exact c1, ?_⟩
              rw [run_ok hw]
              rcases c2 with ⟨c3, c4⟩ | ⟨c3, S2, j2, l2, ts2, c4, c5, c6, c7, c8, c9, c10, c11, c12, c13, c14, c15, c16, c17⟩
              · exact Or.inl ⟨c3, c4⟩
              · exact Or.inr ⟨c3, S2, j2, l2, ts2, by rw [run_ok hw]; exact c4, c5, c6, c7, c8, c9, c10, c11, c12, c13, c14, c15, c16, by rw [List.length_cons]; omega⟩
          rcases mean_cases S (cdOf l) with q | ⟨u, x, q1, q2, q3, ⟨q4, q5⟩ | ⟨q4, q5, q6⟩⟩
          · rw [q, if_pos (by decide), bd_some hL, q, if_pos (by decide), if_pos (by decide)]
            exact nam (by
              rw [hw1]; unfold takeSymbolS
              rw [if_pos (Or.inl q)])
          · rw [q4, if_neg (by decide), q1]
            exact add u S.cvs (by
              rw [hw1]; unfold takeSymbolS
              rw [q4, if_neg (by omega), q1, Int.toNat_natCast, if_neg (show ¬ (0 : Int) = 1 by decide)])
          · obtain ⟨r, d1, d2, d3⟩ := m_typeOf a7.1.2.1 a7.2.1.2.2.1 hi u (by omega)
            rw [q4, if_pos (by decide), bd_some hL, q4, if_pos (by decide), if_neg (by decide), q1, bd_some d1, if_pos d2]
            by_cases ht : tb S.typed u = false
            · rw [if_pos (d3.mpr ht)]
              exact nam (by
                rw [hw1]; unfold takeSymbolS
                rw [q4, q1, Int.toNat_natCast, if_pos (Or.inr ⟨rfl, ht⟩)])
            · rw [if_neg (fun z => ht (d3.mp z))]
              exact add u (S.cvs ||| bit u) (by
                rw [hw1]; unfold takeSymbolS
                rw [q4, q1, Int.toNat_natCast, if_neg (fun z => z.elim (fun w => absurd w (by decide)) (fun w => ht w.2)), if_pos (show (1 : Int) = 1 from rfl)])
        · have hw : wordS S l = .error (-3) := by
            rw [word_key q0]
            unfold keyS endSymbolsS
            have hk : kwOf l ≠ (if S.ckind = 3 then 61 else 46) := by
              have hm36 : (36 : Int) ∈ l := Classical.byContradiction (fun w => q0 (wh0.mpr w))
              intro z
              by_cases q3 : S.ckind = 3
              · rw [if_pos q3] at z hen; exact qe (by rw [hen]; exact wh8.mpr ⟨hm36, z⟩)
              · rw [if_neg q3] at z hen; exact qe (by rw [hen]; exact wh9.mpr ⟨hm36, z⟩)
            rw [if_neg (by omega), if_neg (by omega), if_neg (by omega), if_neg (by omega), if_pos hs, if_pos hk]
          obtain ⟨g2, b1, b2, b3⟩ := m_bad (ws := ws) (b := b) (ts := ts) hw (by decide) a7.1 a8 a10
          rw [if_neg q0, b1]
          exact ⟨0, g2, rfl, Or.inl ⟨rfl, b2⟩⟩
theorem m_expr {ws : List (List Int)} {b : Bool} {S : RSt} {ts : List (Nat × List Int)} {g : G2} (h : MGo ws b S ts (gI g 49 5 ((rI g 49 5) + 1))) (hs : S.stage = 8) (hts : ts.length ≤ 801) : ∃ (r : Int) (g' : G2), f_M_readExpression_50 (if S.ckind = 3 then 8 else 9) g = some (r, g') ∧ ((r = 0 ∧ MFin (rn ws b S ts) g') ∨ (r = 1 ∧ MExp ws b S ts g')) := by
  unfold f_M_readExpression_50
  rcases m_readType h (Or.inr hs) with ⟨g1, a1, a2⟩ | ⟨g1, S1, ts1, a1, a2, a3, a4, a5, a6, a7⟩
  · rw [bd_some a1, if_pos (by decide), if_pos rfl]
    exact ⟨0, g1, rfl, Or.inl ⟨rfl, a2⟩⟩
  · rw [bd_some a1, if_pos (by decide), if_neg (by decide)]
    have hs1 : S1.stage = 9 := by rw [a4, if_neg (by omega)]
    obtain ⟨r, g', c1, c2⟩ := m_exprL (ws := ws) (b := b) (if S.ckind = 3 then 8 else 9) ts1 S1 g1 20000 a3 hs1 (by rw [a6]) (by omega)
    refine ⟨r, g', c1, ?_⟩
    rw [a2]
    rcases c2 with ⟨c3, c4⟩ | ⟨c3, S2, j2, l2, ts2, c4, c5, c6, c7, c8, c9, c10, c11, c12, c13, c14, c15, c16, c17⟩
    · exact Or.inl ⟨c3, c4⟩
    · exact Or.inr ⟨c3, S2, j2, l2, ts2, by rw [a2]; exact c4, c5, by rw [← a6]; exact c6, c7, c8, c9, c10, c11, by rw [c12, a5], by rw [c13, a6], c14, c15, c16, by omega⟩
