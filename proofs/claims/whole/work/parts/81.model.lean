/-! ===== the model: expressions ===== -/
theorem m_needName {ws : List (List Int)} {b : Bool} {S : RSt} {ts : List (Nat × List Int)} {g : G2} (h : MGo ws b S ts g) (hs : S.stage = 5 ∨ S.stage = 6 ∨ S.stage = 8 ∨ S.stage = 12) :
    (∃ g', f_M_needName_50 g = some (0, g') ∧ MFin (rn ws b S ts) g' ∧ SF g g') ∨
    (∃ (j : Nat) (l : List Int) (ts' : List (Nat × List Int)) (g' : G2), ts = (j, l) :: ts' ∧ f_M_needName_50 g = some (1, g') ∧ whOf l = 0 ∧ l.length ≤ 8 ∧ ws[j]? = some l ∧ WdOk l ∧ SF g g' ∧ WM g' ws ∧ MRep S g' ∧ rI g' 49 6 = 0 ∧ rI g' 49 7 = -1 ∧ rI g' 49 5 = (j : Int) ∧ toks (j + 1) false (ws.drop (j + 1)) = (ts', b)) := by
  unfold f_M_needName_50
  rcases m_need h (by omega) with ⟨g', a1, a2, a3⟩ | ⟨j, l, ts', g1, a0, a1, a2, a3, a4, a5, a6, a7, a8, a9, a10, a11⟩
  · left
    rw [bd_some a1, if_pos (by decide), if_neg (by decide), if_neg (by decide)]
    exact ⟨g', rfl, a2, a3⟩
  · have hwh := wh_ir l
    rw [bd_some a1, if_pos (by omega)]
    by_cases q0 : whOf l = 0
    · right
      rw [if_neg (by omega), if_pos q0]
      exact ⟨j, l, ts', g1, a0, rfl, q0, a3, a4, a2, a5, a6, a7, a8, a9, a10, a11⟩
    · left
      have hw : wordS S l = .error (-3) := by
        rw [word_key q0]
        unfold keyS
        rw [if_neg (by omega), if_neg (by omega), if_neg (by omega), if_neg (by omega), if_neg (by omega), if_neg (by omega)]
      obtain ⟨g2, b1, b2, b3⟩ := m_bad (b := b) (ws := ws) (ts := ts') hw (by decide) a7.1 a8 a10
      rw [if_pos (by omega), b1, Option.bind_some, if_neg q0, a0]
      exact ⟨g2, rfl, b2, a5.tr b3⟩
theorem m_readType {ws : List (List Int)} {b : Bool} {S : RSt} {ts : List (Nat × List Int)} {g : G2} (h : MGo ws b S ts (gI g 49 5 ((rI g 49 5) + 1))) (hs : S.stage = 5 ∨ S.stage = 8) :
    (∃ g', f_M_readType_50 g = some (0, g') ∧ MFin (rn ws b S ts) g') ∨
    (∃ (g' : G2) (S' : RSt) (ts' : List (Nat × List Int)), f_M_readType_50 g = some (1, g') ∧ rn ws b S ts = rn ws b S' ts' ∧ MGo ws b S' ts' g' ∧ S'.stage = (if S.stage = 5 then 6 else 9) ∧ S'.clab = S.clab ∧ S'.ckind = S.ckind ∧ ts'.length < ts.length) := by
  have hi := h.2.2.1
  have n60 := hi.1.1
  unfold f_M_readType_50
  rcases m_needName h (by omega) with ⟨g', a1, a2, a3⟩ | ⟨j, l, ts', g1, a0, a1, a2, a3, a4, a4', a5, a6, a7, a8, a9, a10, a11⟩
  · left
    rw [bd_some a1, if_pos (by decide), if_pos rfl]
    exact ⟨g', rfl, a2⟩
  · subst a0
    have hw1 : wordS S l = takeTypeS S (fnd S (cdOf l)) := by
      rw [word_name a2 a3]
      unfold nameS
      rcases hs with hs | hs
      · rw [if_neg (by omega), if_neg (by omega), if_neg (by omega), if_neg (by omega), if_pos hs]
      · rw [if_neg (by omega), if_neg (by omega), if_neg (by omega), if_neg (by omega), if_neg (by omega), if_neg (by omega), if_pos hs]
    have hC := m_isConst a7.1.1 hi (cdOf l)
    have hL := m_isLive a7.1.1 a7.2.1.2.1 hi (cdOf l)
    rw [bd_some a1, if_pos (by decide), if_neg (by decide), bd_some (m_findWord a7.1.1 n60 a6 a4 a10), bd_some hC, if_pos (b01_ir _)]
    rcases mean_cases S (cdOf l) with q | ⟨u, x, q1, q2, q3, ⟨q4, q5⟩ | ⟨q4, q5, q6⟩⟩
    · left
      have hw : wordS S l = .error (-4) := by
        rw [hw1]; unfold takeTypeS
        rw [q, if_pos (by decide), if_pos rfl]
      obtain ⟨g2, b1, b2, b3⟩ := m_bad (ws := ws) (b := b) (ts := ts') hw (by decide) a7.1 a8 a10
      rw [q, if_pos (by decide), bd_some hL, q, if_pos (by decide), if_pos (by decide), b1]
      exact ⟨g2, rfl, b2⟩
    · right
      have hw : wordS S l = .ok ((S.uCrow (S.crow ++ [u])).uStage (if S.stage = 5 then 6 else 9)) := by
        rw [hw1]; unfold takeTypeS
        rw [q4, if_neg (by decide), q1, Int.toNat_natCast]
      obtain ⟨y1, y2⟩ := iv_word hi h.2.2.2.1 hw
      have hcr : S.crow = [] := hi.2.2.2.2.2.2.1.2.1 (by omega)
      rw [q4, if_neg (by decide), q1]
      refine ⟨_, (S.uCrow (S.crow ++ [u])).uStage (if S.stage = 5 then 6 else 9), ts', rfl, run_ok hw, ?_, rfl, rfl, rfl, by rw [List.length_cons]; omega⟩
      obtain ⟨hK, hX, _, _, _, _⟩ := a7
      have hR : MRep ((S.uCrow (S.crow ++ [u])).uStage (if S.stage = 5 then 6 else 9)) (gI (gA g1 79 0 (u : Int)) 49 40 1) := by
        refine ⟨hK, hX, fun z => ?_, fun _ => ⟨?_, ?_⟩, fun z => ?_, fun z => ?_⟩
        · have z2 : (if S.stage = 5 then 6 else 9) = 3 := z
          split at z2 <;> omega
        · show (1 : Int) = ((S.crow ++ [u]).length : Int)
          rw [hcr]; rfl
        · show RowAt (am_upd (g1.2.2.1 79) 0 (u : Int)) 0 (S.crow ++ [u])
          rw [hcr]
          exact (RowAt.nil _ _).app u _ rfl 0 rfl
        · have z2 : 10 ≤ (if S.stage = 5 then 6 else 9) := z
          split at z2 <;> omega
        · have z2 : 12 ≤ (if S.stage = 5 then 6 else 9) := z
          split at z2 <;> omega
      have hW : WM (gI (gA g1 79 0 (u : Int)) 49 40 1) ws := a6
      exact ⟨hW.sf (SF.i (Or.inl rfl)), hR.sf (SF.i (Or.inl rfl)), y1, y2, at_next (g := gI (gA g1 79 0 (u : Int)) 49 40 1) a4 a11 a10, a8, a9⟩
    · left
      have hw : wordS S l = .error (-6) := by
        rw [hw1]; unfold takeTypeS
        rw [q4, if_pos (by decide), if_neg (by decide)]
      obtain ⟨g2, b1, b2, b3⟩ := m_bad (ws := ws) (b := b) (ts := ts') hw (by decide) a7.1 a8 a10
      rw [q4, if_pos (by decide), bd_some hL, q4, if_pos (by decide), if_neg (by decide), b1]
      exact ⟨g2, rfl, b2⟩
/-- assertions stay where a declaration leaves them -/
theorem MA.sdc {S T : RSt} {g g' : G2} (h : MA S g) (k : SDc g g') (ha : T.ass = S.ass) (he : ∀ (q : Nat) (s : RSm), S.sms[q]? = some s → T.sms[q]? = some s) : MA T g' := by
  obtain ⟨t1, t2⟩ := h
  obtain ⟨k1, k2⟩ := k
  unfold MA
  rw [ha]
  refine ⟨(k2 27 (by decide) (by decide)).trans t1, fun j x hx => ?_⟩
  obtain ⟨y1, ⟨s, y2, y3⟩, y4⟩ := t2 j x hx
  unfold MAs NdAt PrAt at *
  rw [k1 68 (by decide) (by decide) (by decide) (by decide) (by decide) (by decide) (by decide) (by decide) (by decide) (by decide) (by decide), k1 70 (by decide) (by decide) (by decide) (by decide) (by decide) (by decide) (by decide) (by decide) (by decide) (by decide) (by decide), k1 69 (by decide) (by decide) (by decide) (by decide) (by decide) (by decide) (by decide) (by decide) (by decide) (by decide) (by decide), k1 73 (by decide) (by decide) (by decide) (by decide) (by decide) (by decide) (by decide) (by decide) (by decide) (by decide) (by decide), k1 71 (by decide) (by decide) (by decide) (by decide) (by decide) (by decide) (by decide) (by decide) (by decide) (by decide) (by decide), k1 72 (by decide) (by decide) (by decide) (by decide) (by decide) (by decide) (by decide) (by decide) (by decide) (by decide) (by decide), k1 74 (by decide) (by decide) (by decide) (by decide) (by decide) (by decide) (by decide) (by decide) (by decide) (by decide) (by decide), k1 75 (by decide) (by decide) (by decide) (by decide) (by decide) (by decide) (by decide) (by decide) (by decide) (by decide) (by decide), k1 76 (by decide) (by decide) (by decide) (by decide) (by decide) (by decide) (by decide) (by decide) (by decide) (by decide) (by decide), k1 77 (by decide) (by decide) (by decide) (by decide) (by decide) (by decide) (by decide) (by decide) (by decide) (by decide) (by decide), k1 78 (by decide) (by decide) (by decide) (by decide) (by decide) (by decide) (by decide) (by decide) (by decide) (by decide) (by decide)]
  exact ⟨y1, ⟨s, he _ s y2, y3⟩, y4⟩
theorem WM.sdc {g g' : G2} {ws : List (List Int)} (h : WM g ws) (k : SDc g g') : WM g' ws := by
  obtain ⟨k1, k2⟩ := k
  unfold WM at *
  rw [k2 4 (by decide) (by decide), k1 51 (by decide) (by decide) (by decide) (by decide) (by decide) (by decide) (by decide) (by decide) (by decide) (by decide) (by decide), k1 52 (by decide) (by decide) (by decide) (by decide) (by decide) (by decide) (by decide) (by decide) (by decide) (by decide) (by decide), k1 50 (by decide) (by decide) (by decide) (by decide) (by decide) (by decide) (by decide) (by decide) (by decide) (by decide) (by decide)]
  exact h
/-- a hypothesis is declared -/
theorem m_declHyp {S T : RSt} {g : G2} (hR : MRep S g) (hi : Iv S) (hst : 4 ≤ S.stage) (hk1 : S.ckind ≤ 1) (h40 : rI g 49 40 = (S.crow.length : Int)) (h79 : RowAt (g.2.2.1 79) 0 S.crow) (h24 : S.crow.length ≤ 24) (hT : declareS S = .ok T) : ∃ g', f_M_declare_50 ((S.ckind : Int) + 4) S.clab g = some ((S.sms.length : Int), g') ∧ MRep T g' ∧ SDc g g' := by
  obtain ⟨⟨hN, hS, hA⟩, hX, _, _, _, _⟩ := hR
  obtain ⟨n60, m40, _⟩ := hi.2.2.2.2.2.2.1.1 hst
  unfold declareS at hT
  injection hT with hT
  obtain ⟨g', a1, a2, a3, a4, a5, a6, a7⟩ := m_declare hN hS hX hi n60 m40 (by omega) h40 h79 h24 T (by rw [← hT]) (by rw [← hT]) (by rw [← hT]) (by rw [← hT]) (by rw [← hT]) (by rw [← hT])
  have hs2 : T.sms = S.sms ++ [(S.clab, S.ckind, S.crow, S.cvs, S.cmand, S.ass.length)] := by rw [← hT]
  have hst0 : T.stage = 0 := by rw [← hT]
  refine ⟨g', a1, ⟨⟨a3, ⟨a5.1, fun k s hk => ?_⟩, hA.sdc a2 (by rw [← hT]; show (if S.ckind ≤ 1 then S.ass else _) = S.ass; rw [if_pos hk1]) (fun q s hq => by rw [hs2]; exact app_ext _ _ q s hq)⟩, a4, fun z => by omega, fun z => by omega, fun z => by omega, fun z => by omega⟩, a2⟩
  obtain ⟨w1, w2, w3, w4⟩ := a5.2 k s hk
  refine ⟨w1, w2, w3, w4, ?_⟩
  rw [hs2] at hk
  rcases ap_get hk with ⟨z1, z2⟩ | ⟨z1, z2⟩
  · rw [a6 k z1]; exact (hS.2 k s z2).2.2.2.2
  · subst z1; subst z2
    rw [a7, if_neg (show ¬ 2 ≤ S.ckind by omega)]
theorem m_floating {ws : List (List Int)} {b : Bool} {S : RSt} {ts : List (Nat × List Int)} {g : G2} (h : MGo ws b S ts (gI g 49 5 ((rI g 49 5) + 1))) (hs : S.stage = 5) : MRes ws b S ts (f_M_readFloating_50 S.clab g) := by
  have t0 : ∀ g' : G2, l_M_readFloating_50 20000 0 0 g' = some g' := fun g' => by rw [show (20000 : Nat) = 19999 + 1 from rfl, s_M_readFloating_50_0]; rfl
  have t3 : ∀ (m : Nat) (g' : G2), l_M_readFloating_50 (m + 1) 3 0 g' = some g' := fun m g' => by rw [s_M_readFloating_50_3]; rfl
  unfold f_M_readFloating_50
  rcases m_readType h (Or.inl hs) with ⟨g1, a1, a2⟩ | ⟨g1, S1, ts1, a1, a2, a3, a4, a5, a6, a7⟩
  · rw [bd_some a1, if_pos (by decide), if_pos rfl, t0]
    exact ⟨g1, rfl, Or.inl a2⟩
  · rw [bd_some a1, if_pos (by decide), if_neg (by decide)]
    have hs1 : S1.stage = 6 := by rw [a4, if_pos hs]
    have hi := a3.2.2.1
    have n60 := hi.1.1
    suffices hres : MRes ws b S1 ts1 (bd (f_M_needName_50 g1) fun r4 g4 => if ir r4 then if r4 = 0 then l_M_readFloating_50 20000 0 0 g4 else bd (f_M_findWord_50 g4) fun r7 g7 => bd (f_M_isConstant_50 r7 g7) fun r8 g8 => if ir r8 then if r8 = 0 then bd (f_M_isLive_50 r7 g8) fun r11 g11 => if ir r11 then if r11 = 0 then l_M_readFloating_50 20000 1 0 g11 else bd (f_M_typeOf_50 r7 g11) fun r14 g14 => if ir r14 then if r14 < 0 then bd (f_M_need_50 (gI (gI (gA g14 79 1 r7) 49 40 2) 49 5 ((rI g14 49 5) + 1))) fun r17 g17 => if ir r17 then if r17 < 0 then l_M_readFloating_50 20000 2 S1.clab g17 else if r17 = 9 then l_M_readFloating_50 20000 2 S1.clab g17 else (f_M_fail_50 (-3) (rI g17 49 5) g17).bind fun g21 => l_M_readFloating_50 20000 2 S1.clab g21 else none else l_M_readFloating_50 20000 1 0 g14 else none else none else (f_M_fail_50 (-6) (rI g8 49 5) g8).bind fun g22 => l_M_readFloating_50 20000 3 0 g22 else none else none) by
      rw [a5] at hres
      obtain ⟨g', e1, e2⟩ := hres
      refine ⟨g', e1, ?_⟩
      rw [a2]
      rcases e2 with e2 | ⟨S2, ts2, e2, e3, e4, e5⟩
      · exact Or.inl e2
      · exact Or.inr ⟨S2, ts2, e2, e3, e4, by omega⟩
    rcases m_needName a3 (Or.inr (Or.inl hs1)) with ⟨g2, b1, b2, b3⟩ | ⟨j, l, ts2, g2, b0, b1, b2, b3, b4, b4', b5, b6, b7, b8, b9, b10, b11⟩
    · rw [bd_some b1, if_pos (by decide), if_pos rfl, t0]
      exact ⟨g2, rfl, Or.inl b2⟩
    · subst b0
      have hw1 : wordS S1 l = takeFloatingS S1 (fnd S1 (cdOf l)) := by
        rw [word_name b2 b3]
        unfold nameS
        rw [if_neg (by omega), if_neg (by omega), if_neg (by omega), if_neg (by omega), if_neg (by omega), if_pos hs1]
      have hC := m_isConst b7.1.1 hi (cdOf l)
      have hL := m_isLive b7.1.1 b7.2.1.2.1 hi (cdOf l)
      rw [bd_some b1, if_pos (by decide), if_neg (by decide), bd_some (m_findWord b7.1.1 n60 b6 b4 b10), bd_some hC, if_pos (b01_ir _)]
      have nam : wordS S1 l = .error (-4) → MRes ws b S1 ((j, l) :: ts2) (l_M_readFloating_50 20000 1 0 g2) := by
        intro hw
        obtain ⟨g3, c1, c2, c3⟩ := m_bad (ws := ws) (b := b) (ts := ts2) hw (by decide) b7.1 b8 b10
        refine ⟨g3, ?_, Or.inl c2⟩
        rw [show (20000 : Nat) = 19999 + 1 from rfl, s_M_readFloating_50_1]
        unfold b_M_readFloating_50_1
        rw [c1, Option.bind_some, show (19999 : Nat) = 19998 + 1 from rfl, t3]
      rcases mean_cases S1 (cdOf l) with q | ⟨u, x, q1, q2, q3, ⟨q4, q5⟩ | ⟨q4, q5, q6⟩⟩
      · rw [q, if_pos (by decide), bd_some hL, q, if_pos (by decide), if_pos (by decide)]
        exact nam (by
          rw [hw1]; unfold takeFloatingS
          rw [q, if_pos (by decide), if_pos rfl])
      · have hw : wordS S1 l = .error (-6) := by
          rw [hw1]; unfold takeFloatingS
          rw [q4, if_pos (by decide), if_neg (by decide)]
        obtain ⟨g3, c1, c2, c3⟩ := m_bad (ws := ws) (b := b) (ts := ts2) hw (by decide) b7.1 b8 b10
        rw [q4, if_neg (by decide), c1, Option.bind_some, show (20000 : Nat) = 19999 + 1 from rfl, t3]
        exact ⟨g3, rfl, Or.inl c2⟩
      · obtain ⟨r, d1, d2, d3⟩ := m_typeOf b7.1.2.1 b7.2.1.2.2.1 hi u (by omega)
        rw [q4, if_pos (by decide), bd_some hL, q4, if_pos (by decide), if_neg (by decide), q1, bd_some d1, if_pos d2]
        have hw2 : wordS S1 l = if tb S1.typed u = true then .error (-4) else .ok (((S1.uCrow (S1.crow ++ [u])).uCvs (S1.cvs ||| bit u)).uStage 7) := by
          rw [hw1]; unfold takeFloatingS
          rw [q4, if_neg (by decide), q1, Int.toNat_natCast]
        by_cases ht : tb S1.typed u = true
        · rw [if_neg (fun z => by rw [d3.mp z] at ht; cases ht)]
          exact nam (by rw [hw2, if_pos ht])
        · have ht' : tb S1.typed u = false := by cases hq : tb S1.typed u with | false => rfl | true => exact absurd hq ht
          rw [if_neg ht] at hw2
          rw [if_pos (d3.mpr ht')]
          obtain ⟨y1, y2⟩ := iv_word hi a3.2.2.2.1 hw2
          obtain ⟨cc, hcr, _⟩ := hi.2.2.2.2.2.2.1.2.2.2.2.2.2.1 hs1
          obtain ⟨x40, x79⟩ := b7.2.2.2.1 (Or.inl hs1)
          obtain ⟨hK, hX, _, _, _, _⟩ := b7
          have hR7 : MRep (((S1.uCrow (S1.crow ++ [u])).uCvs (S1.cvs ||| bit u)).uStage 7) (gI (gA g2 79 1 (u : Int)) 49 40 2) := by
            refine ⟨hK, hX, fun z => absurd z (by show ¬ 7 = 3; decide), fun _ => ⟨?_, ?_⟩, fun z => absurd z (by show ¬ 10 ≤ 7; decide), fun z => absurd z (by show ¬ 12 ≤ 7; decide)⟩
            · show (2 : Int) = ((S1.crow ++ [u]).length : Int)
              rw [hcr]; rfl
            · show RowAt (am_upd (g2.2.2.1 79) 1 (u : Int)) 0 (S1.crow ++ [u])
              exact x79.app u _ rfl 1 (by rw [hcr]; rfl)
          have hW7 : WM (gI (gA g2 79 1 (u : Int)) 49 40 2) ws := b6
          have hG7 : MGo ws b (((S1.uCrow (S1.crow ++ [u])).uCvs (S1.cvs ||| bit u)).uStage 7) ts2 (gI (gI (gA g2 79 1 (u : Int)) 49 40 2) 49 5 ((rI g2 49 5) + 1)) := ⟨hW7.sf (SF.i (Or.inl rfl)), hR7.sf (SF.i (Or.inl rfl)), y1, y2, at_next (g := gI (gA g2 79 1 (u : Int)) 49 40 2) b4 b11 b10, b8, b9⟩
          refine MRes.ok hw2 ?_
          -- the last word
          generalize hS7 : (((S1.uCrow (S1.crow ++ [u])).uCvs (S1.cvs ||| bit u)).uStage 7) = S7 at *
          have hs7 : S7.stage = 7 := by rw [← hS7]
          have hl7 : S7.clab = S1.clab := by rw [← hS7]
          rw [← hl7]
          have t2f : ∀ g' : G2, MFin (rn ws b S7 ts2) g' → l_M_readFloating_50 20000 2 S7.clab g' = some g' := fun g' hf => by
            rw [show (20000 : Nat) = 19999 + 1 from rfl, s_M_readFloating_50_2]
            unfold b_M_readFloating_50_2
            rw [if_pos hf.ne.2, if_neg hf.ne.1, show (19999 : Nat) = 19998 + 1 from rfl, t3]
          rcases m_need hG7 (by omega) with ⟨g3, e1, e2, e3⟩ | ⟨j3, l3, ts3, g3, e0, e1, e2, e3, e4, e5, e6, e7, e8, e9, e10, e11⟩
          · rw [bd_some e1, if_pos (by decide), if_pos (by decide), t2f g3 e2]
            exact ⟨g3, rfl, Or.inl e2⟩
          · subst e0
            have hwh := wh_ir l3
            rw [bd_some e1, if_pos (by omega), if_neg (by omega)]
            by_cases q9 : whOf l3 = 9
            · have hk := (wh9.mp q9).2
              have hdec : ∃ T, declareS S7 = .ok T := ⟨_, rfl⟩
              obtain ⟨T, hT⟩ := hdec
              have hw : wordS S7 l3 = .ok T := by
                rw [word_key (by omega), hk]
                unfold keyS
                rw [if_neg (by omega), if_neg (by omega), if_neg (by omega), if_pos hs7, if_pos rfl]; exact hT
              obtain ⟨z1, z2⟩ := iv_word y1 y2 hw
              have hc0 : S7.ckind = 0 := y1.2.2.2.2.2.2.1.2.2.1 (Or.inr hs7)
              obtain ⟨w40, w79⟩ := e7.2.2.2.1 (Or.inr (Or.inl hs7))
              obtain ⟨c7, v7, hc7, _⟩ := y1.2.2.2.2.2.2.1.2.2.2.2.2.2.2.1 hs7
              have hR3 := e7.sf (SF.i (v := (rI g3 49 5) + 1) (Or.inl rfl))
              obtain ⟨g4, f1, f2, f3⟩ := m_declHyp hR3 y1 (by omega) (by omega) w40 w79 (by rw [hc7]; show 2 ≤ 24; decide) hT
              rw [hc0] at f1
              have f1' : f_M_declare_50 4 S7.clab (gI g3 49 5 ((rI g3 49 5) + 1)) = some ((S7.sms.length : Int), g4) := f1
              rw [if_pos q9, show (20000 : Nat) = 19999 + 1 from rfl, s_M_readFloating_50_2]
              unfold b_M_readFloating_50_2
              rw [if_pos (by omega), if_pos e8, bd_some f1', show (19999 : Nat) = 19998 + 1 from rfl, t3]
              have hT0 : T.stage = 0 := by unfold declareS at hT; injection hT with hT; rw [← hT]
              refine ⟨g4, rfl, Or.inr ⟨T, ts3, run_ok hw, ⟨(e6.sf (SF.i (Or.inl rfl))).sdc f3, f2, z1, z2, ?_, (f3.2 6 (by decide) (by decide)).trans e8, (f3.2 7 (by decide) (by decide)).trans e9⟩, hT0, by rw [List.length_cons]; omega⟩⟩
              obtain ⟨w, w1, w2, w3⟩ := at_next e4 e11 e10
              exact ⟨w, (f3.2 5 (by decide) (by decide)).trans w1, w2, w3⟩
            · have hw : wordS S7 l3 = .error (-3) := by
                by_cases q0 : whOf l3 = 0
                · rw [word_name q0 e3]
                  unfold nameS
                  rw [if_neg (by omega), if_neg (by omega), if_neg (by omega), if_neg (by omega), if_neg (by omega), if_neg (by omega), if_neg (by omega), if_neg (by omega), if_neg (by omega), if_neg (by omega), if_neg (by omega), if_neg (by omega)]
                · rw [word_key q0]
                  unfold keyS
                  have hk : kwOf l3 ≠ 46 := fun z => q9 (wh9.mpr ⟨Classical.byContradiction (fun w => q0 (wh0.mpr w)), z⟩)
                  rw [if_neg (by omega), if_neg (by omega), if_neg (by omega), if_pos hs7, if_neg hk]
              obtain ⟨g4, f1, f2, f3⟩ := m_bad (ws := ws) (b := b) (ts := ts3) hw (by decide) e7.1 e8 e10
              rw [if_neg q9, f1, Option.bind_some, t2f g4 f2]
              exact ⟨g4, rfl, Or.inl f2⟩
