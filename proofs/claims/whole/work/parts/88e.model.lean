/-! ===== the model: the letters, and a whole proof ===== -/
theorem MKm.cg {S S' : RSt} {g : G2} (h : MKm S g) (e : S'.1 = S.1) : MKm S' g := by
  obtain ⟨K, R⟩ := S
  obtain ⟨K', R'⟩ := S'
  have e2 : K' = K := e
  subst e2
  exact h
def LetR (ws : List (List Int)) (S : RSt) (g : G2) (o : Option G2) : RS → Prop
  | .error f => ∃ g', o = some g' ∧ MKm S g' ∧ rI g' 49 6 = f ∧ rI g' 49 7 = rI g 49 5 ∧ -12 < f ∧ f < 0
  | .ok S' => ∃ g', o = some g' ∧ WM g' ws ∧ rI g' 49 5 = rI g 49 5 ∧ rI g' 49 6 = 0 ∧ rI g' 49 7 = rI g 49 7 ∧ MRep S' g' ∧ S'.1 = S.1 ∧ S'.clab = S.clab ∧ S'.ass = S.ass
theorem lt_bad {ws : List (List Int)} {S : RSt} {g g1 : G2} {f : Int} {o : Option G2} (o1 : o = some g1) (h1 : MKm S g1) (h6 : rI g1 49 6 = f) (h7 : rI g1 49 7 = rI g 49 5) (hf : -12 < f ∧ f < 0) : LetR ws S g o (.error f) := ⟨g1, o1, h1, h6, h7, hf.1, hf.2⟩
theorem rl2 (m : Nat) (g : G2) : l_M_readLetter_50 (m + 1) 2 g = some g := by
  rw [s_M_readLetter_50_2]; rfl
theorem rl1 (m : Nat) (g : G2) : l_M_readLetter_50 (m + 2) 1 g = some (gI g 49 56 0) := by
  rw [show m + 2 = (m + 1) + 1 by omega, s_M_readLetter_50_1]
  unfold b_M_readLetter_50_1
  exact rl2 m _
theorem rl0 (m : Nat) (g : G2) : l_M_readLetter_50 (m + 2) 0 g = some (gI (gI g 49 51 1) 49 56 0) := by
  rw [show m + 2 = (m + 1) + 1 by omega, s_M_readLetter_50_0]
  unfold b_M_readLetter_50_0
  exact rl2 m _
theorem kk84 {S : RSt} {g g1 : G2} {ws : List (List Int)} (k : KK (fun r => r ≠ 84) g g1) : (MKm S g → MKm S g1) ∧ (MX S g → MX S g1) ∧ (MD S g → MD S g1) ∧ (MC S g → MC S g1) ∧ (MPf S g → MPf S g1) ∧ (WM g ws → WM g1 ws) := by
  have e49 : g1.1 49 = g.1 49 := (k 49 (by decide)).1
  have e : ∀ r, r ≠ 84 → g1.2.2.1 r = g.2.2.1 r := fun r hr => (k r hr).2.2.1
  have e53 : g1.2.2.2 53 = g.2.2.2 53 := (k 53 (by decide)).2.2.2
  refine ⟨fun h => ?_, fun h => ?_, fun h => ?_, fun h => ?_, fun h => ?_, fun h => ?_⟩
  · unfold MKm MN MSt MA MAs NdAt PrAt rI at *
    rw [e49, e53, e 54 (by decide), e 57 (by decide), e 58 (by decide), e 59 (by decide), e 61 (by decide), e 60 (by decide), e 64 (by decide), e 68 (by decide), e 70 (by decide), e 69 (by decide), e 73 (by decide), e 71 (by decide), e 72 (by decide), e 74 (by decide), e 75 (by decide), e 76 (by decide), e 77 (by decide), e 78 (by decide)]
    exact h
  · unfold MX MV MH MPr rI at *
    rw [e49, e 55 (by decide), e 56 (by decide), e 62 (by decide), e 63 (by decide), e 65 (by decide), e 66 (by decide), e 67 (by decide)]
    exact h
  · unfold MD at *
    rw [e 81 (by decide)]; exact h
  · unfold MC rI at *
    rw [e49, e 79 (by decide)]; exact h
  · unfold MPf MPf0 NdAt PrAt rI at *
    rw [e49, e 70 (by decide), e 69 (by decide), e 73 (by decide), e 71 (by decide), e 72 (by decide), e 74 (by decide), e 75 (by decide), e 76 (by decide), e 82 (by decide), e 83 (by decide)]
    exact h
  · unfold WM rI at *
    rw [e49, e 50 (by decide), e 51 (by decide), e 52 (by decide)]; exact h
theorem m_readLetter {ws : List (List Int)} {S : RSt} {g : G2} (hR : MRep S g) (hW : WM g ws) (hi : Iv S) (hb : Bh S) (hs : S.stage = 13) (c : Int) (hc : c = 63 ∨ (65 ≤ c ∧ c ≤ 90)) (h6 : rI g 49 6 = 0) : LetR ws S g (f_M_readLetter_50 (S.ass.length : Int) c g) (letterS S c) := by
  have hR' := hR
  obtain ⟨hK, hX, hD, hC, hP, hL⟩ := hR
  obtain ⟨⟨⟨xn, xp⟩, x3, x45, x82, x51⟩, _⟩ := hP (by omega)
  obtain ⟨x53, x88, x48, x84, xl⟩ := hL (by omega)
  obtain ⟨x54, x55, x56⟩ := xl hs
  obtain ⟨r1, r2, r3, r4, r5, r6, r7, r8, r9, r10⟩ := hi.2.2.2.2.2.2.2.2.1 (by omega)
  obtain ⟨_, ha, hh, h16, h24⟩ := hi.pu (by omega)
  unfold f_M_readLetter_50 letterS
  rw [if_pos (by omega)]
  by_cases q63 : c = 63
  · rw [if_pos q63, x55, if_pos (b01_ir _)]
    unfold takeLetterS
    rw [if_pos q63]
    cases hin : S.ins with
    | true =>
      rw [if_neg (show ¬ b01 true = 0 by decide), if_pos rfl, m_fail0 h6, Option.bind_some, show (20000 : Nat) = 19998 + 2 from rfl, rl0]
      exact lt_bad rfl hK rfl rfl (by decide)
    | false =>
      rw [if_pos (show b01 false = 0 by decide), if_neg (show ¬ false = true by decide), show (20000 : Nat) = 19998 + 2 from rfl, rl0]
      show LetR ws S g _ (if (gapS (S.uBeh false)).beh = true then _ else .ok (gapS (S.uBeh false)))
      rw [if_neg (show ¬ (gapS (S.uBeh false)).beh = true from fun z => by cases z)]
      refine ⟨_, rfl, hW, rfl, h6, rfl, ⟨hK, hX, fun z => hD z, fun z => hC z, fun _ => ⟨⟨⟨xn, xp⟩, x3, x45, x82, rfl⟩, fun z => ?_⟩, fun _ => ⟨x53, x88, x48, x84, fun _ => ⟨x54, x55, rfl⟩⟩⟩, rfl, rfl, rfl⟩
      have z2 : S.stage < 12 := z
      omega
  · rw [if_neg q63]
    by_cases q90 : c = 90
    · rw [if_pos q90, x56, if_pos (b01_ir _)]
      unfold takeLetterS
      rw [if_neg q63, if_pos q90]
      cases hbe : S.beh with
      | false =>
        rw [if_pos (show b01 false = 0 by decide), if_pos rfl, m_fail0 h6, Option.bind_some, show (20000 : Nat) = 19998 + 2 from rfl, rl1]
        exact lt_bad rfl hK rfl rfl (by decide)
      | true =>
        rw [if_neg (show ¬ b01 true = 0 by decide), if_neg (show ¬ true = false by decide), x48, if_pos (by omega)]
        by_cases q16 : 16 ≤ S.tc
        · rw [if_pos (show (S.tc : Int) = 16 by omega), if_pos q16, m_fail0 h6, Option.bind_some, show (20000 : Nat) = 19998 + 2 from rfl, rl1]
          exact lt_bad rfl hK rfl rfl (by decide)
        · rw [if_neg (show ¬ (S.tc : Int) = 16 by omega), if_neg q16]
          unfold f_M_tag_50
          cases hg : S.gap with
          | true =>
            have ht : l_M_tag_50 20000 0 0 g = some (gI (gA g 85 (S.tc : Int) 0) 49 48 ((S.tc : Int) + 1)) := by
              rw [show (20000 : Nat) = 19999 + 1 from rfl, s_M_tag_50_0]
              unfold b_M_tag_50_0
              rw [x51, hg, if_pos (by decide), if_neg (by decide), if_neg (by decide), x48, if_pos (by omega)]
            rw [ht, Option.bind_some, show (20000 : Nat) = 19998 + 2 from rfl, rl1, if_pos rfl]
            show LetR ws S g _ (if (((S.uBeh false).uTc (S.tc + 1)).uTags S.tags).beh = true then _ else .ok (((S.uBeh false).uTc (S.tc + 1)).uTags S.tags))
            rw [if_neg (show ¬ (((S.uBeh false).uTc (S.tc + 1)).uTags S.tags).beh = true from fun z => by cases z)]
            refine ⟨_, rfl, hW, rfl, h6, rfl, ⟨hK, hX, fun z => hD z, fun z => hC z, fun _ => ⟨⟨⟨xn, xp⟩, x3, x45, x82, x51⟩, fun z => ?_⟩, fun _ => ⟨x53, x88, rfl, ?_, fun _ => ⟨x54, x55, rfl⟩⟩⟩, rfl, rfl, rfl⟩
            · have z2 : S.stage < 12 := z
              omega
            · exact stkM_len x84 S.tc r7 0
          | false =>
            have h0 : 0 < S.stk.length := hb (by omega) hbe hg
            obtain ⟨e, he⟩ := ex_get (l := S.stk) (k := S.stk.length - 1) (by omega)
            have e24 := h24 e (List.mem_of_getElem? he)
            obtain ⟨w1, w2⟩ := x82 _ e he
            obtain ⟨g1, t1, t2, t3, t4⟩ := m_tagL (S.stk.length - 1) S.tc e.1 (by omega) (by omega) e24 e.1.length 20000 0 g (by omega) (by omega) (by rw [x51, hg]; rfl) (by omega) x48 w2 w1 (by rw [List.take_zero]; exact RowAt.nil _ _)
            have t1' : l_M_tag_50 20000 0 0 g = some (gI (gA g1 85 (S.tc : Int) (e.1.length : Int)) 49 48 ((S.tc : Int) + 1)) := t1
            rw [t1', Option.bind_some, show (20000 : Nat) = 19998 + 2 from rfl, rl1, if_neg (show ¬ false = true by decide), he]
            show LetR ws S g _ (if (((S.uBeh false).uTc (S.tc + 1)).uTags (S.tags ++ [e])).beh = true then _ else .ok (((S.uBeh false).uTc (S.tc + 1)).uTags (S.tags ++ [e])))
            rw [if_neg (show ¬ (((S.uBeh false).uTc (S.tc + 1)).uTags (S.tags ++ [e])).beh = true from fun z => by cases z)]
            obtain ⟨k1, k2, k3, k4, k5, k6⟩ := kk84 (S := S) (ws := ws) t2
            obtain ⟨⟨⟨yn, yp⟩, y3, y45, y82, y51⟩, _⟩ := (k5 hP) (by omega)
            have e49 : g1.1 49 = g.1 49 := (t2 49 (by decide)).1
            refine ⟨_, rfl, k6 hW, congrFun e49 5, (congrFun e49 6).trans h6, congrFun e49 7, ⟨k1 hK, k2 hX, fun z => k3 hD z, fun z => k4 hC z, fun _ => ⟨⟨⟨yn, yp⟩, y3, y45, y82, y51⟩, fun z => ?_⟩, fun _ => ⟨(congrFun e49 53).trans x53, fun i v hv => ?_, rfl, ?_, fun _ => ⟨(congrFun e49 54).trans x54, (congrFun e49 55).trans x55, rfl⟩⟩⟩, rfl, rfl, rfl⟩
            · have z2 : S.stage < 12 := z
              omega
            · show g1.2.2.1 88 i = _
              rw [(t2 88 (by decide)).2.2.1]; exact x88 i v hv
            · have htl := r8 hg
              show StkM (g1.2.2.1 84) (am_upd (g1.2.2.1 85) S.tc (e.1.length : Int)) (S.tags ++ [e])
              rw [(t2 85 (by decide)).2.2.1, ← htl]
              exact stkM_app x84 (fun e' he' => (r5 e' he').1.2.1) (by rw [htl]; exact t3) (fun p hp => t4 p (by omega))
    · rw [if_neg q90]
      have n0 : 0 ≤ rI g 49 54 ∧ rI g 49 54 ≤ 9999 := by
        rw [x54]
        cases hin : S.ins with
        | true =>
          have := r9 (Or.inl hin)
          rw [if_pos rfl]; omega
        | false => rw [if_neg (by decide)]; omega
      have htk : takeLetterS S c = if 9999 < numS S c then .error (-7) else .ok (((S.uIns (decide (85 ≤ c))).uBeh (!decide (85 ≤ c))).uNum (numS S c).toNat) := by
        unfold takeLetterS
        rw [if_neg q63, if_neg q90]
      by_cases q85 : c < 85
      · have hn : numS S c = (((20 * (rI g 49 54)) + c) - 65) + 1 := by
          unfold numS
          rw [if_neg (by omega), x54]
        rw [if_pos q85, if_pos (by omega), htk, hn]
        by_cases q9 : 9999 < (((20 * (rI g 49 54)) + c) - 65) + 1
        · rw [if_pos q9, if_pos q9, m_fail0 (show rI (gI (gI (gI g 49 54 ((((20 * (rI g 49 54)) + c) - 65) + 1)) 49 55 0) 49 56 1) 49 6 = 0 from h6), Option.bind_some, show (20000 : Nat) = 19999 + 1 from rfl, rl2]
          exact lt_bad rfl hK rfl rfl (by decide)
        · have htk2 := htk
          rw [hn, if_neg q9] at htk2
          rw [if_neg q9, if_neg q9, decide_eq_false (show ¬ 85 ≤ c by omega)]
          rw [decide_eq_false (show ¬ 85 ≤ c by omega)] at htk2
          obtain ⟨N, hN⟩ : ∃ N : Nat, (((20 * (rI g 49 54)) + c) - 65) + 1 = (N : Int) := ⟨((((20 * (rI g 49 54)) + c) - 65) + 1).toNat, by omega⟩
          rw [hN] at htk2 q9 ⊢
          rw [Int.toNat_natCast] at htk2 ⊢
          obtain ⟨iv1, is1, _⟩ := iv_takeLetter hi hb hs hc htk2
          have iv12 := iv_stage iv1 (by omega) 12 (by decide) (by decide) (fun _ => by omega)
          have hR12 : MRep ((((S.uIns false).uBeh (!false)).uNum N).uStage 12) (gI (gI (gI g 49 54 (N : Int)) 49 55 0) 49 56 1) := by
            refine ⟨hK, hX, fun z => absurd z (by show ¬ 12 = 3; decide), fun _ => hC (Or.inr (Or.inr (by omega))), fun _ => ⟨⟨⟨xn, xp⟩, x3, x45, x82, x51⟩, fun z => absurd z (by show ¬ 12 < 12; decide)⟩, fun _ => ⟨x53, x88, x48, x84, fun z => absurd z (by show ¬ 12 = 13; decide)⟩⟩
          have hst := m_stepNum hR12 iv12 rfl (by show 1 ≤ N ∧ N ≤ 9999; omega) h6
          rw [num_stg] at hst
          have hst : StpR ((((S.uIns false).uBeh (!false)).uNum N).uStage 12) (gI (gI (gI g 49 54 (N : Int)) 49 55 0) 49 56 1) (f_M_stepWith_50 (S.ass.length : Int) (N : Int) (gI (gI (gI g 49 54 (N : Int)) 49 55 0) 49 56 1)) (rsm 12 (stepNumS (((S.uIns false).uBeh (!false)).uNum N))) := hst
          show LetR ws S g _ (stepNumS (((S.uIns false).uBeh (!false)).uNum N))
          cases hr : stepNumS (((S.uIns false).uBeh (!false)).uNum N) with
          | error f =>
            rw [hr] at hst
            obtain ⟨g2, b1, b2, b3, b4, b5, b6⟩ := hst
            rw [b1, Option.bind_some, show (20000 : Nat) = 19999 + 1 from rfl, rl2]
            exact lt_bad rfl (show MKm S (gI g2 49 54 0) from b2.km (S := S) hK) b3 b4 ⟨b5, b6⟩
          | ok S2 =>
            rw [hr] at hst
            obtain ⟨g2, b1, b2, b3, b4, b5⟩ := hst
            rw [b1, Option.bind_some, show (20000 : Nat) = 19999 + 1 from rfl, rl2]
            obtain ⟨k1, k2, k3, k4⟩ := num_ks hr
            obtain ⟨hK2, hX2, hD2, hC2, hP2, hL2⟩ := b5
            obtain ⟨y53, y88, y48, y84, _⟩ := hL2 (by show 12 ≤ 12; decide)
            obtain ⟨p1, _⟩ := hP2 (by show 10 ≤ 12; decide)
            have hs2 : S2.stage = 13 := by rw [show S2.stage = S2.2.2.1.1 from rfl, k3]; exact hs
            have hins : S2.ins = false := by rw [show S2.ins = S2.2.2.2.2.2.2.2.2.2.2.1 from rfl, k4]
            have hbeh : S2.beh = true := by rw [show S2.beh = S2.2.2.2.2.2.2.2.2.2.2.2 from rfl, k4]; rfl
            refine ⟨_, rfl, b2.wm hW, b2.2.2.1 5 (by decide) (by decide) (by decide), b3, b4, ⟨hK2, hX2, fun z => by omega, fun _ => hC2 (Or.inr (Or.inr (by show 9 ≤ 12; decide))), fun _ => ⟨p1, fun z => by omega⟩, fun _ => ⟨y53, y88, y48, y84, fun _ => ⟨?_, ?_, ?_⟩⟩⟩, k1, ?_, ?_⟩
            · rw [hins, if_neg (by decide)]; rfl
            · rw [hins]; exact (b2.2.2.1 55 (by decide) (by decide) (by decide))
            · rw [hbeh]; exact (b2.2.2.1 56 (by decide) (by decide) (by decide))
            · rw [show S2.clab = S2.2.2.1.2.2.2.2.1 from rfl, k3]
            · rw [show S2.ass = S2.1.2.2.2.2 from rfl, k1]
      · have hn : numS S c = (((5 * (rI g 49 54)) + c) - 85) + 1 := by
          unfold numS
          rw [if_pos (by omega), x54]
        rw [if_neg q85, if_pos (by omega), htk, hn]
        by_cases q9 : 9999 < (((5 * (rI g 49 54)) + c) - 85) + 1
        · rw [if_pos q9, if_pos q9, m_fail0 (show rI (gI (gI (gI g 49 54 ((((5 * (rI g 49 54)) + c) - 85) + 1)) 49 55 1) 49 56 0) 49 6 = 0 from h6), Option.bind_some, show (20000 : Nat) = 19999 + 1 from rfl, rl2]
          exact lt_bad rfl hK rfl rfl (by decide)
        · rw [if_neg q9, if_neg q9, decide_eq_true (show 85 ≤ c by omega), show (20000 : Nat) = 19999 + 1 from rfl, rl2]
          obtain ⟨N, hN⟩ : ∃ N : Nat, (((5 * (rI g 49 54)) + c) - 85) + 1 = (N : Int) := ⟨((((5 * (rI g 49 54)) + c) - 85) + 1).toNat, by omega⟩
          rw [hN, Int.toNat_natCast]
          show LetR ws S g _ (if (((S.uIns true).uBeh (!true)).uNum N).beh = true then _ else .ok (((S.uIns true).uBeh (!true)).uNum N))
          rw [if_neg (show ¬ (((S.uIns true).uBeh (!true)).uNum N).beh = true from fun z => by cases z)]
          refine ⟨_, rfl, hW, rfl, h6, rfl, ⟨hK, hX, fun z => hD z, fun z => hC z, fun _ => ⟨⟨⟨xn, xp⟩, x3, x45, x82, x51⟩, fun z => ?_⟩, fun _ => ⟨x53, x88, x48, x84, fun _ => ⟨?_, rfl, rfl⟩⟩⟩, rfl, rfl, rfl⟩
          · have z2 : S.stage < 12 := z
            omega
          · show (N : Int) = if true = true then (N : Int) else 0
            rw [if_pos rfl]
