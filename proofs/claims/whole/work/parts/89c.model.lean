/-! ===== the model: a labelled statement ===== -/
theorem wh_kind {l : List Int} (h0 : whOf l ≠ 0) : (whOf l = 4 ↔ kwOf l = 102) ∧ (whOf l = 5 ↔ kwOf l = 101) ∧ (whOf l = 6 ↔ kwOf l = 97) ∧ (whOf l = 7 ↔ kwOf l = 112) ∧ (whOf l = 1 ↔ kwOf l = 99) ∧ (whOf l = 2 ↔ kwOf l = 118) ∧ (whOf l = 3 ↔ kwOf l = 100) ∧ (whOf l = 10 ↔ kwOf l = 123) ∧ (whOf l = 11 ↔ kwOf l = 125) := by
  have q : (36 : Int) ∈ l := Classical.byContradiction (fun z => h0 (wh0.mpr z))
  unfold whOf
  rw [if_pos q]
  generalize kwOf l = k
  repeat' split
  all_goals omega
theorem MRes.tr {ws : List (List Int)} {b : Bool} {S S1 : RSt} {ts ts1 : List (Nat × List Int)} {o : Option G2} (e : rn ws b S ts = rn ws b S1 ts1) (hl : ts1.length ≤ ts.length) (h : MRes ws b S1 ts1 o) : MRes ws b S ts o := by
  obtain ⟨g3, e1, e2⟩ := h
  refine ⟨g3, e1, ?_⟩
  rw [e]
  rcases e2 with e2 | ⟨S2, ts2, e2, e3, e4, e5⟩
  · exact Or.inl e2
  · exact Or.inr ⟨S2, ts2, e2, e3, e4, by omega⟩
theorem MRes.fin {ws : List (List Int)} {b : Bool} {S S' : RSt} {j : Nat} {l : List Int} {ts : List (Nat × List Int)} {g : G2} (hw : wordS S l = .ok S') (h : MGo ws b S' ts g) (h0 : S'.stage = 0) : MRes ws b S ((j, l) :: ts) (some g) :=
  ⟨g, rfl, Or.inr ⟨S', ts, run_ok hw, h, h0, by rw [List.length_cons]; omega⟩⟩
theorem lb4 (m : Nat) (g : G2) : l_M_readLabelled_50 (m + 1) 4 0 0 0 g = some g := by rw [s_M_readLabelled_50_4]; rfl
theorem lb3 (m : Nat) (g : G2) : l_M_readLabelled_50 (m + 2) 3 0 0 0 g = some g := by
  rw [show m + 2 = (m + 1) + 1 from rfl, s_M_readLabelled_50_3]
  unfold b_M_readLabelled_50_3
  rw [lb4]
/-- what stopped stays -/
theorem lb2f {r : Int × Int × RSt} {g : G2} (h : MFin r g) (m : Nat) (c : Int64) (k i : Int) : l_M_readLabelled_50 (m + 3) 2 c k i g = some g := by
  obtain ⟨h1, h2, h3, _⟩ := h
  rw [show m + 3 = (m + 2) + 1 from rfl, s_M_readLabelled_50_2]
  unfold b_M_readLabelled_50_2
  rw [if_pos (by omega), if_neg (by omega), lb3]
theorem lb2h {g g' : G2} {r : Int} (h6 : rI g 49 6 = 0) (m : Nat) (c : Int64) (i : Int) (h : f_M_declare_50 5 c g = some (r, g')) : l_M_readLabelled_50 (m + 3) 2 c 5 i g = some g' := by
  rw [show m + 3 = (m + 2) + 1 from rfl, s_M_readLabelled_50_2]
  unfold b_M_readLabelled_50_2
  rw [if_pos (by omega), if_pos h6, bd_some h, if_pos (by decide), if_pos rfl, lb3]
theorem lb2a {g g40 g45 : G2} {k a s : Nat} (h6 : rI g 49 6 = 0) (m : Nat) (c : Int64) (hk : k = 6 ∨ k = 7) (ha : a < 40) (hs : s < 40) (h : f_M_declare_50 (k : Int) c g = some ((s : Int), g40)) (h' : f_M_settle_50 (a : Int) (gA (gA g40 64 (s : Int) (a : Int)) 68 (a : Int) (s : Int)) = some g45) : l_M_readLabelled_50 (m + 3) 2 c (k : Int) (a : Int) g = some (gI g45 49 27 ((rI g45 49 27) + 1)) := by
  rw [show m + 3 = (m + 2) + 1 from rfl, s_M_readLabelled_50_2]
  unfold b_M_readLabelled_50_2
  rw [if_pos (by omega), if_pos h6, bd_some h, if_pos (by omega), if_neg (by omega), if_pos (by omega), if_pos (by omega), h', Option.bind_some, lb3]
/-- an essential hypothesis is read to its end -/
theorem m_lab5 {ws : List (List Int)} {b : Bool} {S : RSt} {j : Nat} {l : List Int} {ts : List (Nat × List Int)} {g : G2} (m : Nat) (i : Int) (hw0 : whOf l ≠ 0) (hk : kwOf l = 46) (hM : WM g ws) (hR : MRep S g) (hi : Iv S) (hb : Bh S) (hs : S.stage = 9) (hc : S.ckind = 1) (hA : At g ws ts b) (h6 : rI g 49 6 = 0) (h7 : rI g 49 7 = -1) : MRes ws b S ((j, l) :: ts) (l_M_readLabelled_50 (m + 3) 2 S.clab 5 i g) := by
  obtain ⟨T, hT⟩ : ∃ T, declareS S = .ok T := ⟨_, rfl⟩
  have hw : wordS S l = .ok T := by
    rw [word_key hw0, hk]
    unfold keyS endSymbolsS
    rw [if_neg (by omega), if_neg (by omega), if_neg (by omega), if_neg (by omega), if_pos hs, if_neg (show ¬ S.ckind = 3 by omega), if_neg (by decide), if_pos (by omega)]; exact hT
  obtain ⟨z1, z2⟩ := iv_word hi hb hw
  obtain ⟨w40, w79⟩ := hR.2.2.2.1 (Or.inr (Or.inr (by omega)))
  have h24 := (hi.2.2.2.2.2.2.1.2.2.2.2.2.2.2.2 (by omega)).1.2.1
  obtain ⟨g4, f1, f2, f3⟩ := m_declHyp hR hi (by omega) (by omega) w40 w79 h24 hT
  rw [hc] at f1
  have f1' : f_M_declare_50 5 S.clab g = some ((S.sms.length : Int), g4) := f1
  rw [lb2h h6 m S.clab i f1']
  have hT0 : T.stage = 0 := by unfold declareS at hT; injection hT with hT; rw [← hT]
  refine MRes.fin hw ⟨hM.sdc f3, f2, z1, z2, ?_, (f3.2 6 (by decide) (by decide)).trans h6, (f3.2 7 (by decide) (by decide)).trans h7⟩ hT0
  obtain ⟨w, w1, w2, w3⟩ := hA
  exact ⟨w, (f3.2 5 (by decide) (by decide)).trans w1, w2, w3⟩
/-- an axiom is read to its end -/
theorem m_lab6 {ws : List (List Int)} {b : Bool} {S : RSt} {j : Nat} {l : List Int} {ts : List (Nat × List Int)} {g : G2} (m : Nat) (hw0 : whOf l ≠ 0) (hk : kwOf l = 46) (hM : WM g ws) (hR : MRep S g) (hi : Iv S) (hb : Bh S) (hs : S.stage = 9) (hc : S.ckind = 2) (hA : At g ws ts b) (h6 : rI g 49 6 = 0) (h7 : rI g 49 7 = -1) : MRes ws b S ((j, l) :: ts) ((f_M_findNeeds_50 g).bind fun g26 => (f_M_begin_50 (rI g 49 27) g26).bind fun g27 => l_M_readLabelled_50 (m + 3) 2 S.clab 6 (rI g 49 27) g27) := by
  obtain ⟨g1, g2, a1, a2, a3, a4, a5, a6, a7, a8⟩ := m_begin hR hi hs
  have e27 : rI g 49 27 = (S.ass.length : Int) := hR.1.2.2.1
  obtain ⟨T, hT⟩ : ∃ T, declareS ((((beginAssertionS S).uStk []).uGap false).uStage 10) = .ok T := ⟨_, rfl⟩
  obtain ⟨T', hT'⟩ : ∃ T, declareS (beginAssertionS S) = .ok T := ⟨_, rfl⟩
  have hw : wordS S l = .ok T' := by
    rw [word_key hw0, hk]
    unfold keyS endSymbolsS
    rw [if_neg (by omega), if_neg (by omega), if_neg (by omega), if_neg (by omega), if_pos hs, if_neg (show ¬ S.ckind = 3 by omega), if_neg (by decide), if_neg (by omega), if_pos (by omega)]; exact hT'
  obtain ⟨z1, z2⟩ := iv_word hi hb hw
  obtain ⟨w40, w79⟩ := a3.2.2.2.1 (Or.inr (Or.inr (show 9 ≤ 10 by decide)))
  have h24 := (hi.2.2.2.2.2.2.1.2.2.2.2.2.2.2.2 (by omega)).1.2.1
  obtain ⟨n60, m40, _⟩ := hi.2.2.2.2.2.2.1.1 (by omega)
  have hal : S.ass.length < 40 := by have := hi.1.2.2.1; omega
  obtain ⟨g40, g45, f1, f2, f3, f4, f5⟩ := m_declAs (S := S) (P := (((beginAssertionS S).uStk []).uGap false).uStage 10) (T := T) (g := g2) (n := 0) a3.1 a3.2.1 hi (by omega) (by omega) (by omega) w40 w79 h24 rfl rfl rfl rfl rfl rfl (a3.2.2.2.2.1 (show 10 ≤ 10 by decide)).1 rfl rfl ⟨fun _ => ⟨rfl, fun j _ hz => absurd rfl hz⟩, fun _ => rfl⟩ ⟨Nat.le_refl 0, fun _ => Nat.le_refl 0⟩ (by omega) hT
  rw [hc] at f1
  have f1' : f_M_declare_50 ((6 : Nat) : Int) S.clab g2 = some ((S.sms.length : Int), g40) := f1
  rw [a1, Option.bind_some, e27, a2, Option.bind_some]
  have := lb2a (k := 6) (by rw [a6]; exact h6) m S.clab (Or.inl rfl) hal m40 f1' f2
  rw [show ((6 : Nat) : Int) = 6 from rfl] at this
  rw [this]
  unfold declareS at hT hT'
  injection hT with hT; injection hT' with hT'
  have hT0 : T'.stage = 0 := by rw [← hT']
  have hRT : MRep T' (gI g45 49 27 ((rI g45 49 27) + 1)) := by
    rw [← hT] at f3
    refine ⟨?_, ?_, fun z => by omega, fun z => by omega, fun z => by omega, fun z => by omega⟩
    · rw [← hT']; exact f3.1
    · rw [← hT']; exact f3.2.1
  refine MRes.fin hw ⟨f4 ws (a4 ws hM), hRT, z1, z2, ?_, ?_, ?_⟩ hT0
  · obtain ⟨w, w1, w2, w3⟩ := hA
    exact ⟨w, ((f5 5 (by decide) (by decide)).trans a5).trans w1, w2, w3⟩
  · exact ((f5 6 (by decide) (by decide)).trans a6).trans h6
  · exact ((f5 7 (by decide) (by decide)).trans a7).trans h7
/-- a theorem and its proof are read to the end -/
theorem m_lab7 {ws : List (List Int)} {b : Bool} {S : RSt} {j : Nat} {l : List Int} {ts : List (Nat × List Int)} {g : G2} (m : Nat) (hts : ts.length ≤ 801) (hw0 : whOf l ≠ 0) (hk : kwOf l = 61) (hM : WM g ws) (hR : MRep S g) (hi : Iv S) (hb : Bh S) (hs : S.stage = 9) (hc : S.ckind = 3) (hA : At g ws ts b) (h6 : rI g 49 6 = 0) (h7 : rI g 49 7 = -1) : MRes ws b S ((j, l) :: ts) ((f_M_findNeeds_50 g).bind fun g26 => (f_M_begin_50 (rI g 49 27) g26).bind fun g27 => (f_M_readProof_50 (rI g 49 27) g27).bind fun g29 => l_M_readLabelled_50 (m + 3) 2 S.clab 7 (rI g 49 27) g29) := by
  obtain ⟨g1, g2, a1, a2, a3, a4, a5, a6, a7, a8⟩ := m_begin hR hi hs
  have e27 : rI g 49 27 = (S.ass.length : Int) := hR.1.2.2.1
  have hw : wordS S l = .ok ((((beginAssertionS S).uStk []).uGap false).uStage 10) := by
    rw [word_key hw0, hk]
    unfold keyS endSymbolsS
    rw [if_neg (by omega), if_neg (by omega), if_neg (by omega), if_neg (by omega), if_pos hs, if_pos hc, if_neg (by decide), if_neg (by omega), if_neg (by omega)]
  obtain ⟨z1, z2⟩ := iv_word hi hb hw
  have hal : S.ass.length < 40 := by
    have := hi.1.2.2.1
    have := (hi.2.2.2.2.2.2.1.1 (by omega)).2.1
    omega
  have hG : MGo ws b ((((beginAssertionS S).uStk []).uGap false).uStage 10) ts g2 := by
    refine ⟨a4 ws hM, a3, z1, z2, ?_, a6.trans h6, a7.trans h7⟩
    obtain ⟨w, w1, w2, w3⟩ := hA
    exact ⟨w, a5.trans w1, w2, w3⟩
  obtain ⟨g3, c1, c2⟩ := m_readProof hG rfl hts
  have c1' : f_M_readProof_50 (S.ass.length : Int) g2 = some g3 := c1
  rw [a1, Option.bind_some, e27, a2, Option.bind_some, c1', Option.bind_some]
  refine MRes.ok hw ?_
  rcases c2 with c2 | ⟨P, j2, l2, ts2, d1, d2, d3, d4, d5, d6, d7, d8, d9, d10, d11, d12, d13, d14⟩
  · rw [lb2f c2]
    exact ⟨g3, rfl, Or.inl c2⟩
  · refine MRes.tr d1 (by rw [List.length_cons]; omega) ?_
    obtain ⟨T, hT⟩ : ∃ T, declareS P = .ok T := ⟨_, rfl⟩
    rw [hT] at d2
    obtain ⟨y1, y2⟩ := iv_word d5 d6 d2
    obtain ⟨w40, w79⟩ := d4.2.2.2.1 (Or.inr (Or.inr (by omega)))
    have h24 := (d5.2.2.2.2.2.2.1.2.2.2.2.2.2.2.2 (by omega)).1.2.1
    obtain ⟨n60, m40, _⟩ := d5.2.2.2.2.2.2.1.1 (by omega)
    obtain ⟨i1, i2, _, _, _, _, i3, i4⟩ := d5.2.2.2.2.2.2.2.1 d7
    have hu := d14 0 ⟨Nat.le_refl 0, fun _ => Nat.le_refl 0⟩
    have hpa : P.ass.length = S.ass.length := congrArg List.length d9
    have hpc : P.clab = S.clab := d8
    obtain ⟨g40, g45, f1, f2, f3, f4, f5⟩ := m_declAs (S := P) (P := P) (T := T) (g := g3) d4.1 d4.2.1 d5 (by omega) (by omega) (by omega) w40 w79 h24 rfl rfl rfl rfl rfl rfl (d4.2.2.2.2.1 d7).1 i2 i3 i4 hu (by omega) hT
    rw [i1] at f1
    have f1' : f_M_declare_50 ((7 : Nat) : Int) P.clab g3 = some ((P.sms.length : Int), g40) := f1
    have := lb2a (k := 7) d11 m P.clab (Or.inr rfl) (by omega) m40 f1' f2
    rw [show ((7 : Nat) : Int) = 7 from rfl, hpa, hpc] at this
    rw [this]
    have hT0 : T.stage = 0 := by unfold declareS at hT; injection hT with hT; rw [← hT]
    refine MRes.fin d2 ⟨f4 ws d3, f3, y1, y2, ?_, (f5 6 (by decide) (by decide)).trans d11, (f5 7 (by decide) (by decide)).trans d12⟩ hT0
    obtain ⟨w, w1, w2, w3⟩ := d10
    exact ⟨w, (f5 5 (by decide) (by decide)).trans w1, w2, w3⟩
/-- a statement with an expression -/
theorem m_lab1 {ws : List (List Int)} {b : Bool} {S : RSt} {ts : List (Nat × List Int)} {g : G2} (h : MGo ws b S ts (gI g 49 5 ((rI g 49 5) + 1))) (hs : S.stage = 8) (hts : ts.length ≤ 801) (k : Int) (hk : k = (S.ckind : Int) + 4) : MRes ws b S ts (l_M_readLabelled_50 20000 1 S.clab k 0 g) := by
  have hi := h.2.2.1
  have k3 : S.ckind ≤ 3 := hi.2.2.2.2.2.2.1.2.2.2.1 (by omega)
  have k1 : 1 ≤ S.ckind := hi.2.2.2.2.2.2.1.2.2.2.2.2.1 (by omega)
  rw [show (20000 : Nat) = 19999 + 1 from rfl, s_M_readLabelled_50_1, show (19999 : Nat) = 19996 + 3 from rfl]
  unfold b_M_readLabelled_50_1
  obtain ⟨r, g2, c1, c2⟩ := m_expr h hs hts
  rw [if_pos (by omega)]
  by_cases q3 : S.ckind = 3
  · rw [if_pos q3] at c1
    rw [if_pos (by omega), bd_some c1]
    rcases c2 with ⟨c3, c4⟩ | ⟨c3, S2, j2, l2, ts2, d1, d2, d3, d4, d5, d6, d7, d8, d9, d10, d11, d12, d13, d14⟩
    · subst c3
      rw [if_pos (by decide), if_pos rfl]
      exact ⟨g2, rfl, Or.inl c4⟩
    · subst c3
      rw [if_pos (by decide), if_neg (by decide), if_neg (by omega)]
      have hk7 : k = 7 := by omega
      refine MRes.tr d1 (by rw [List.length_cons]; omega) ?_
      rw [if_pos q3] at d3
      have := m_lab7 (j := j2) 19996 (by omega) d2 d3 d4 d5 d6 d7 d8 (by omega) d11 d12 d13
      rw [d9] at this
      rw [hk7]
      simp only [eq_self_iff_true, if_true]
      exact this
  · rw [if_neg q3] at c1
    rw [if_neg (by omega), bd_some c1]
    rcases c2 with ⟨c3, c4⟩ | ⟨c3, S2, j2, l2, ts2, d1, d2, d3, d4, d5, d6, d7, d8, d9, d10, d11, d12, d13, d14⟩
    · subst c3
      rw [if_pos (by decide), if_pos rfl]
      exact ⟨g2, rfl, Or.inl c4⟩
    · subst c3
      rw [if_pos (by decide), if_neg (by decide)]
      refine MRes.tr d1 (by rw [List.length_cons]; omega) ?_
      rw [if_neg q3] at d3
      by_cases q1 : S.ckind = 1
      · have hk5 : k = 5 := by omega
        rw [hk5, if_pos rfl]
        have := m_lab5 (j := j2) 19996 (rI g2 49 27) d2 d3 d4 d5 d6 d7 d8 (by omega) d11 d12 d13
        rw [d9] at this
        exact this
      · have hk6 : k = 6 := by omega
        have := m_lab6 (j := j2) 19996 d2 d3 d4 d5 d6 d7 d8 (by omega) d11 d12 d13
        rw [d9] at this
        rw [hk6, if_neg (show ¬ (6 : Int) = 5 by decide)]
        simp only [show ¬ (6 : Int) = 7 by decide, if_false]
        exact this
theorem m_labelled {ws : List (List Int)} {b : Bool} {S : RSt} {j : Nat} {l : List Int} {ts : List (Nat × List Int)} {g : G2} (hM : WM g ws) (hR : MRep S g) (hi : Iv S) (hb : Bh S) (h6 : rI g 49 6 = 0) (h7 : rI g 49 7 = -1) (hj : ws[j]? = some l) (hl8 : l.length ≤ 8) (h5 : rI g 49 5 = (j : Int)) (ht : toks (j + 1) false (ws.drop (j + 1)) = (ts, b)) (hs : S.stage = 0) (h0 : whOf l = 0) (hts : ts.length ≤ 801) : MRes ws b S ((j, l) :: ts) (f_M_readLabelled_50 g) := by
  have hfi := fnd_ir hi.1.1 (cdOf l)
  have n60 := hi.1.1
  have m40 := hi.1.2.1
  have e8 : rI g 49 8 = (S.nms.length : Int) := hR.1.1.1
  have e15 : rI g 49 15 = (S.sms.length : Int) := hR.1.2.1.1
  have hw0 : wordS S l = takeLabelS S (cdOf l) := by
    rw [word_name h0 hl8]
    unfold nameS
    rw [if_pos hs]
  unfold f_M_readLabelled_50
  rw [h5, bd_some (m_code hM hj), bd_some (m_find' hR.1.1 hi.1.1 _), if_pos (by omega)]
  by_cases q : fnd S (cdOf l) = -1
  · rw [if_pos (by omega), if_pos (by omega)]
    have bad7 : 60 ≤ S.nms.length ∨ 40 ≤ S.sms.length → MRes ws b S ((j, l) :: ts) (l_M_readLabelled_50 20000 0 0 0 0 g) := fun z => by
      have hw : wordS S l = .error (-7) := by
        rw [hw0]; unfold takeLabelS
        rw [if_neg (by omega), if_pos z]
      obtain ⟨g4, f1, f2, f3⟩ := m_bad (ws := ws) (b := b) (ts := ts) hw (by decide) hR.1 h6 h5
      rw [show (20000 : Nat) = 19999 + 1 from rfl, s_M_readLabelled_50_0]
      unfold b_M_readLabelled_50_0
      rw [f1, Option.bind_some]
      exact ⟨g4, rfl, Or.inl f2⟩
    by_cases q60 : S.nms.length = 60
    · rw [if_pos (by omega)]
      exact bad7 (by omega)
    · rw [if_neg (by omega), if_pos (by omega)]
      by_cases q40 : S.sms.length = 40
      · rw [if_pos (by omega)]
        exact bad7 (by omega)
      · rw [if_neg (by omega)]
        have hw : wordS S l = .ok ((((S.uStage 4).uClab (cdOf l)).uCrow []).uCvs (Int64.ofNat 0)) := by
          rw [hw0]; unfold takeLabelS
          rw [if_neg (by omega), if_neg (by omega)]
        obtain ⟨z1, z2⟩ := iv_word hi hb hw
        have hR1 : MRep ((((S.uStage 4).uClab (cdOf l)).uCrow []).uCvs (Int64.ofNat 0)) g := ⟨hR.1, hR.2.1, fun z => absurd z (by show ¬ 4 = 3; decide), fun z => absurd z (by show ¬ (4 = 6 ∨ 4 = 7 ∨ 9 ≤ 4); decide), fun z => absurd z (by show ¬ 10 ≤ 4; decide), fun z => absurd z (by show ¬ 12 ≤ 4; decide)⟩
        have e5' := at_next hj ht h5
        have hG : MGo ws b ((((S.uStage 4).uClab (cdOf l)).uCrow []).uCvs (Int64.ofNat 0)) ts (gI g 49 5 ((rI g 49 5) + 1)) := ⟨hM.sf (SF.i (Or.inl rfl)), hR1.sf (SF.i (Or.inl rfl)), z1, z2, e5', h6, h7⟩
        refine MRes.ok hw ?_
        have hs1 : ((((S.uStage 4).uClab (cdOf l)).uCrow []).uCvs (Int64.ofNat 0)).stage = 4 := rfl
        have hc1 : ((((S.uStage 4).uClab (cdOf l)).uCrow []).uCvs (Int64.ofNat 0)).clab = cdOf l := rfl
        clear hw hw0 hR1 e5'
        generalize ((((S.uStage 4).uClab (cdOf l)).uCrow []).uCvs (Int64.ofNat 0)) = S1 at *
        rcases m_need hG (by omega) with ⟨g3, e1, e2, e3⟩ | ⟨j3, l3, ts3, g3, x0, x1, x2, x3, x4, x5, x6, x7, x8, x9, x10, x11⟩
        · rw [bd_some e1, if_pos (by decide), if_pos (by decide)]
          exact ⟨g3, rfl, Or.inl e2⟩
        · subst x0
          rw [List.length_cons] at hts
          have hwh := wh_ir l3
          rw [bd_some x1, if_pos (by omega), if_neg (by omega)]
          have hgo : ∀ S2, wordS S1 l3 = .ok S2 → S2.nms = S1.nms → S2.sms = S1.sms → MRep S2 g3 → MGo ws b S2 ts3 (gI g3 49 5 ((rI g3 49 5) + 1)) := fun S2 hw2 _ _ hr2 => by
            obtain ⟨y1, y2⟩ := iv_word z1 z2 hw2
            exact ⟨x6.sf (SF.i (Or.inl rfl)), hr2.sf (SF.i (Or.inl rfl)), y1, y2, at_next x4 x11 x10, x8, x9⟩
          by_cases q0 : whOf l3 = 0
          · have hw : wordS S1 l3 = .error (-3) := by
              rw [word_name q0 x3]
              unfold nameS
              rw [if_neg (by omega), if_neg (by omega), if_neg (by omega), if_neg (by omega), if_neg (by omega), if_neg (by omega), if_neg (by omega), if_neg (by omega), if_neg (by omega), if_neg (by omega), if_neg (by omega), if_neg (by omega)]
            obtain ⟨g4, f1, f2, f3⟩ := m_bad (ws := ws) (b := b) (ts := ts3) hw (by decide) x7.1 x8 x10
            rw [if_neg (by omega), if_neg (by omega), if_neg (by omega), if_neg (by omega), f1, Option.bind_some, show (20000 : Nat) = 19999 + 1 from rfl, lb4]
            exact ⟨g4, rfl, Or.inl f2⟩
          · have hwk : wordS S1 l3 = takeKindS S1 (kwOf l3) := by
              rw [word_key q0]
              unfold keyS
              rw [if_neg (by omega), if_neg (by omega), if_pos hs1]
            obtain ⟨k4, k5, k6, k7, _⟩ := wh_kind q0
            unfold takeKindS at hwk
            by_cases q4 : whOf l3 = 4
            · have := k4.mp q4
              rw [if_neg (by omega), if_neg (by omega), if_pos this] at hwk
              have hG2 := hgo _ hwk rfl rfl ⟨x7.1, x7.2.1, fun z => absurd z (by show ¬ 5 = 3; decide), fun z => absurd z (by show ¬ (5 = 6 ∨ 5 = 7 ∨ 9 ≤ 5); decide), fun z => absurd z (by show ¬ 10 ≤ 5; decide), fun z => absurd z (by show ¬ 12 ≤ 5; decide)⟩
              obtain ⟨g5, u1, u2⟩ := m_floating hG2 rfl
              have u1' : f_M_readFloating_50 (cdOf l) g3 = some g5 := by rw [← hc1]; exact u1
              rw [if_pos q4, u1', Option.bind_some, show (20000 : Nat) = 19999 + 1 from rfl, lb4]
              exact MRes.ok hwk ⟨g5, rfl, u2⟩
            · rw [if_neg q4]
              by_cases q5 : whOf l3 = 5
              · have := k5.mp q5
                rw [if_neg (by omega), if_pos this] at hwk
                have hG2 := hgo _ hwk rfl rfl ⟨x7.1, x7.2.1, fun z => absurd z (by show ¬ 8 = 3; decide), fun z => absurd z (by show ¬ (8 = 6 ∨ 8 = 7 ∨ 9 ≤ 8); decide), fun z => absurd z (by show ¬ 10 ≤ 8; decide), fun z => absurd z (by show ¬ 12 ≤ 8; decide)⟩
                have u := m_lab1 hG2 rfl (by omega) (whOf l3) (by rw [q5]; rfl)
                rw [if_pos q5, ← hc1]
                exact MRes.ok hwk u
              · rw [if_neg q5]
                by_cases q6 : whOf l3 = 6
                · have := k6.mp q6
                  rw [if_pos this] at hwk
                  have hG2 := hgo _ hwk rfl rfl ⟨x7.1, x7.2.1, fun z => absurd z (by show ¬ 8 = 3; decide), fun z => absurd z (by show ¬ (8 = 6 ∨ 8 = 7 ∨ 9 ≤ 8); decide), fun z => absurd z (by show ¬ 10 ≤ 8; decide), fun z => absurd z (by show ¬ 12 ≤ 8; decide)⟩
                  have u := m_lab1 hG2 rfl (by omega) (whOf l3) (by rw [q6]; rfl)
                  rw [if_pos q6, ← hc1]
                  exact MRes.ok hwk u
                · rw [if_neg q6]
                  by_cases q7 : whOf l3 = 7
                  · have := k7.mp q7
                    rw [if_neg (by omega), if_neg (by omega), if_neg (by omega), if_pos this] at hwk
                    have hG2 := hgo _ hwk rfl rfl ⟨x7.1, x7.2.1, fun z => absurd z (by show ¬ 8 = 3; decide), fun z => absurd z (by show ¬ (8 = 6 ∨ 8 = 7 ∨ 9 ≤ 8); decide), fun z => absurd z (by show ¬ 10 ≤ 8; decide), fun z => absurd z (by show ¬ 12 ≤ 8; decide)⟩
                    have u := m_lab1 hG2 rfl (by omega) (whOf l3) (by rw [q7]; rfl)
                    rw [if_pos q7, ← hc1]
                    exact MRes.ok hwk u
                  · rw [if_neg q7]
                    have n4 := fun z => q4 (k4.mpr z)
                    have n5 := fun z => q5 (k5.mpr z)
                    have n6 := fun z => q6 (k6.mpr z)
                    have n7 := fun z => q7 (k7.mpr z)
                    rw [if_neg n6, if_neg n5, if_neg n4, if_neg n7] at hwk
                    obtain ⟨g4, f1, f2, f3⟩ := m_bad (ws := ws) (b := b) (ts := ts3) hwk (by decide) x7.1 x8 x10
                    rw [f1, Option.bind_some, show (20000 : Nat) = 19999 + 1 from rfl, lb4]
                    exact ⟨g4, rfl, Or.inl f2⟩
  · have hw : wordS S l = .error (-4) := by
      rw [hw0]; unfold takeLabelS
      rw [if_pos q]
    obtain ⟨g4, f1, f2, f3⟩ := m_bad (ws := ws) (b := b) (ts := ts) hw (by decide) hR.1 h6 h5
    rw [if_neg (by omega), f1, Option.bind_some]
    exact ⟨g4, rfl, Or.inl f2⟩
