/-! ===== the class's steps: numbers and letters ===== -/
theorem c_takeStep {S : RSt} {g : G2} (h : CRep S g) (hi : Iv S) (hs : 10 ≤ S.stage) (c : Int64) : OutC S (f_Reader_takeStep_26 c g) (takeStepS S c) := by
  have h' := h
  obtain ⟨⟨hN, hS, hA, h38⟩, hX, hR, hC, hP, hL⟩ := h
  have m40 : S.sms.length ≤ 40 := hi.1.2.1
  unfold f_Reader_takeStep_26 takeStepS
  by_cases h63 : c = Int64.ofNat 63
  · rw [if_pos h63, if_pos h63]
    obtain ⟨g', a1, a2⟩ := c_gap h' hi hs
    rw [a1]
    exact ⟨g', rfl, a2⟩
  · obtain ⟨f1, f2⟩ := c_findUsable hN hS hX hi c
    rw [if_neg h63, if_neg h63, bd_some f1]
    cases hu : usableS S c with
    | none => exact ⟨g, rfl, ⟨hN, hS, hA, h38⟩, by decide, by decide⟩
    | some k =>
      have hk := f2 k hu
      show OutC S (if ir (k : Int) then if (k : Int) = -1 then some (-8, g) else bd (f_Proof_stepWith_34 (k : Int) g) fun r6 g6 => some (r6, g6) else none) (stepWithS S k)
      rw [if_pos (by omega), if_neg (by omega)]
      exact (c_stepWith h' hi hs k hk).bd
/-- a state's own number does not matter -/
theorem c_beginSteps {S : RSt} {g : G2} (h : CRep S g) (hi : Iv S) (hi11 : Iv (S.uStage 11)) (hs : S.stage = 10) (c : Int64) : OutC S (f_Reader_beginSteps_26 c g) (beginStepsS S c) := by
  have h' := h
  obtain ⟨⟨hN, hS, hA, h38⟩, hX, hR, hC, hP, hL⟩ := h
  have m40 : S.sms.length < 40 := (hi.2.2.2.2.2.2.1.1 (by omega)).2.1
  unfold f_Reader_beginSteps_26 beginStepsS
  by_cases h40 : c = Int64.ofNat 40
  · rw [if_pos h40, if_neg (fun z => z h40), hS.1]
    have h14 := (hC.2.2 (by omega)).1
    obtain ⟨g', a1, a2, a3, a4, a5, a6, a7, a8, a9⟩ := c_lettersB (S := S) S.sms.length S.cmand m40 S.sms.length 20000 0 (gI g 43 3 0) (by omega) (by omega) h14 rfl (fun j v hj => by
      have hj2 : ([] : List Nat)[j]? = some v := hj
      simp at hj2)
    have kk : KK (fun r => r ≠ 43 ∧ r ≠ 44 ∧ r ≠ 45) g g' := (KK.i (by decide) KK.rf).tr a2
    have a1' : f_Letters_begin_44 (S.sms.length : Int) g = some g' := a1
    rw [a1', Option.bind_some]
    have hN' := hN.kk kk (by decide)
    have hS' := hS.kk kk (by decide)
    have hA' := hA.kk kk (by decide) (by decide)
    have h38' := z38 h38 kk (by decide)
    have hX' := hX.kk kk (by decide)
    have hC' := hC.kk kk (by decide) (by decide)
    have hP' := hP.kk kk (by decide)
    refine ⟨gI g' 25 6 12, rfl, ⟨hN', hS', hA', h38'⟩, hX', ⟨rfl, fun _ z => absurd z (by show ¬ (12 ≤ 3); decide)⟩, ⟨fun _ => hC'.1 (by omega), fun _ => hC'.2.1 (by omega), fun _ => hC'.2.2 (by omega)⟩, fun _ => hP' (by omega), fun _ => ⟨a3, a4, a5, a6, fun r e he => ?_, a7, fun z => ?_, a8, a9⟩⟩
    · have he2 : ([] : List (List Nat × Int64))[r]? = some e := he
      simp at he2
    · rcases z with z | z
      · have z2 : false = true := z
        cases z2
      · have z2 : false = true := z
        cases z2
  · rw [if_neg h40, if_pos h40]
    have h11 : CRep (S.uStage 11) (gI g 25 6 11) := ⟨⟨hN, hS, hA, h38⟩, hX, ⟨rfl, fun _ z => absurd z (by show ¬ (11 ≤ 3); decide)⟩, ⟨fun _ => hC.1 (by omega), fun _ => hC.2.1 (by omega), fun _ => hC.2.2 (by omega)⟩, fun _ => hP (by omega), fun z => absurd z (by show ¬ (12 ≤ 11); decide)⟩
    have hfin := (c_takeStep h11 hi11 (show 10 ≤ 11 by decide) c).bd
    revert hfin
    cases takeStepS (S.uStage 11) c with
    | error f => exact fun z => z
    | ok S' => exact fun z => z
theorem c_takeLetter {S : RSt} {g : G2} (h : CRep S g) (hi : Iv S) (hbh : Bh S) (hs : S.stage = 13) (c : Int) (hc : c = 63 ∨ (65 ≤ c ∧ c ≤ 90)) : OutC S (f_Letters_takeLetter_44 c g) (takeLetterS S c) := by
  have h' := h
  obtain ⟨⟨hN, hS, hA, h38⟩, hX, hR, hC, hP, hL⟩ := h
  obtain ⟨l1, l2, l3, l4, l5, l6, l7, l8, l9⟩ := hL (by omega)
  obtain ⟨p1, p2, p3⟩ := hP (by omega)
  obtain ⟨j1, j2, j3, j4, j5, j6, j7, j8, j9, j10⟩ := hi.2.2.2.2.2.2.2.2.1 (by omega)
  obtain ⟨_, _, _, i4, i16, iSt, _⟩ := hi.2.2.2.2.2.2.2.1 (by omega)
  have bad : CK S g := ⟨hN, hS, hA, h38⟩
  unfold f_Letters_takeLetter_44 takeLetterS
  rw [if_pos (by omega)]
  by_cases h63 : c = 63
  · rw [if_pos h63, if_pos h63]
    unfold f_Letters_addGap_44
    rw [l8, if_pos (b01_ir _)]
    cases hin : S.ins with
    | true => exact ⟨g, rfl, bad, by decide, by decide⟩
    | false =>
      have h9 : CRep (S.uBeh false) (gI g 43 9 0) := ⟨bad, hX, hR, hC, hP, fun _ => ⟨l1, l2, l3, l4, l5, l6, fun z => l7 (z.elim Or.inl (fun w => by have w2 : false = true := w; cases w2)), l8, rfl⟩⟩
      have hi9 : Iv (S.uBeh false) := ⟨hi.1, hi.2.1, hi.2.2.1, hi.2.2.2.1, hi.2.2.2.2.1, hi.2.2.2.2.2.1, hi.2.2.2.2.2.2.1, hi.2.2.2.2.2.2.2.1, fun _ => ⟨j1, j2, j3, j4, j5, j6, j7, j8, fun z => j9 (z.elim Or.inl (fun w => by have w2 : false = true := w; cases w2)), fun _ => rfl⟩, hi.2.2.2.2.2.2.2.2.2⟩
      obtain ⟨g', a1, a2⟩ := c_gap h9 hi9 (show 10 ≤ S.stage by omega)
      rw [if_pos (by decide), a1]
      exact ⟨g', rfl, a2⟩
  · rw [if_neg h63, if_neg h63]
    by_cases h90 : c = 90
    · rw [if_pos h90, if_pos h90]
      unfold f_Letters_addTag_44
      rw [l9, if_pos (b01_ir _)]
      cases hbe : S.beh with
      | false => exact ⟨g, rfl, bad, by decide, by decide⟩
      | true =>
        rw [if_neg (by decide), if_pos (by omega), if_neg (show ¬ true = false by decide)]
        by_cases h16 : 16 ≤ S.tc
        · rw [if_neg (by omega), if_pos h16]
          exact ⟨g, rfl, bad, by decide, by decide⟩
        · rw [if_pos (by omega), if_neg h16, p3, if_pos (b01_ir _)]
          have hin : S.ins = false := by
            cases hq : S.ins with
            | false => rfl
            | true => have := j10 hq; rw [hbe] at this; cases this
          cases hg : S.gap with
          | true =>
            rw [if_neg (by decide), if_pos rfl]
            refine ⟨gI (gI g 43 9 0) 43 6 ((rI g 43 6) + 1), rfl, bad, hX, hR, hC, hP, fun _ => ⟨l1, l2, l3, l4, l5, ?_, fun z => ?_, l8, rfl⟩⟩
            · show rI g 43 6 + 1 = _
              rw [l6]; exact nat1 _
            · rcases z with z | z
              · have z2 : S.ins = true := z
                rw [hin] at z2; cases z2
              · have z2 : false = true := z
                cases z2
          | false =>
            have hpos := hbh (by omega) hbe hg
            have htl := j8 hg
            obtain ⟨e, he⟩ := ex_get (l := S.stk) (k := S.stk.length - 1) (by omega)
            obtain ⟨f1, f2, f3⟩ := p2 _ e he
            obtain ⟨u1, u2, u3, u4⟩ := (iSt e (List.mem_of_getElem? he)).1
            have eb : ((rI g 34 4) - 1) = ((S.stk.length - 1 : Nat) : Int) := by rw [p1]; omega
            have e36 : rA (gI (gI g 43 9 0) 43 6 ((rI g 43 6) + 1)) 36 ((S.stk.length - 1 : Nat) : Int) = (e.1.length : Int) := f2
            have e37 : rB (gI (gI g 43 9 0) 43 6 ((rI g 43 6) + 1)) 37 ((S.stk.length - 1 : Nat) : Int) = e.2 := f3
            have l4' : rI (gI (gI g 43 9 0) 43 6 ((rI g 43 6) + 1)) 45 4 = (S.tags.length : Int) := l4
            have es : (rI g 45 4).toNat = S.tags.length := by rw [l4, Int.toNat_natCast]
            have hcp : f_Expressions_addCopy_46_35 ((S.stk.length - 1 : Nat) : Int) (gI (gI g 43 9 0) 43 6 ((rI g 43 6) + 1)) = some (gI (gB (gA (gC (gI (gI g 43 9 0) 43 6 ((rI g 43 6) + 1)) 35 46 (((S.stk.length - 1 : Nat) : Int) * 24) ((S.tags.length : Int) * 24) (e.1.length : Int)) 47 (S.tags.length : Int) (e.1.length : Int)) 48 (S.tags.length : Int) e.2) 45 4 ((S.tags.length : Int) + 1)) := by
              unfold f_Expressions_addCopy_46_35
              rw [e36, e37, l4', if_pos (by omega), if_pos (by omega), if_pos (by omega)]
            rw [if_pos (by decide), eb, hcp, Option.bind_some, if_neg (by decide), he]
            refine ⟨_, rfl, bad, hX, hR, hC, hP, fun _ => ⟨l1, l2, l3, ?_, fun r f hf => ?_, ?_, fun z => ?_, l8, rfl⟩⟩
            · exact len1 S.tags e
            · show RowAt (am_cpy (g.2.2.1 35) (g.2.2.1 46) (((S.stk.length - 1 : Nat) : Int) * 24).toNat ((S.tags.length : Int) * 24).toNat ((e.1.length : Int)).toNat) (24 * r) f.1 ∧ am_upd (g.2.2.1 47) S.tags.length _ r = _ ∧ am_upd (g.2.2.2 48) S.tags.length _ r = _
              rw [show (((S.stk.length - 1 : Nat) : Int) * 24).toNat = 24 * (S.stk.length - 1) by omega, show ((S.tags.length : Int) * 24).toNat = 24 * S.tags.length by omega, Int.toNat_natCast]
              have hf2 : (S.tags ++ [e])[r]? = some f := hf
              rcases ap_get hf2 with ⟨b1, b2⟩ | ⟨b1, b2⟩
              · have := (j5 f (List.mem_of_getElem? b2)).1.2.1
                obtain ⟨w1, w2, w3⟩ := l5 r f b2
                exact ⟨w1.keep (Or.inl (by omega)), by rw [am_updN (by omega)]; exact w2, by rw [am_updN (by omega)]; exact w3⟩
              · subst b1; subst b2
                exact ⟨f1.cpy rfl, updN_at _ _ _, updN_at _ _ _⟩
            · show rI g 43 6 + 1 = _
              rw [l6]; exact nat1 _
            · rcases z with z | z
              · have z2 : S.ins = true := z
                rw [hin] at z2; cases z2
              · have z2 : false = true := z
                cases z2
    · rw [if_neg h90, if_neg h90, l8, if_pos (b01_ir _)]
      have hnum : ∀ (b : Int), b = (if S.ins = true then (S.num : Int) else 0) → OutC S (if c < 85 then (if ir ((((20 * b) + c) - 65) + 1) then (if 9999 < ((((20 * b) + c) - 65) + 1) then some ((-7), (gI (gI (gI g 43 8 0) 43 9 1) 43 7 ((((20 * b) + c) - 65) + 1))) else some (0, (gI (gI (gI g 43 8 0) 43 9 1) 43 7 ((((20 * b) + c) - 65) + 1)))) else none) else (if ir ((((5 * b) + c) - 85) + 1) then (if 9999 < ((((5 * b) + c) - 85) + 1) then some ((-7), (gI (gI (gI g 43 8 1) 43 9 0) 43 7 ((((5 * b) + c) - 85) + 1))) else some (0, (gI (gI (gI g 43 8 1) 43 9 0) 43 7 ((((5 * b) + c) - 85) + 1)))) else none)) (if 9999 < numS S c then .error (-7) else .ok (((S.uIns (decide (85 ≤ c))).uBeh (!decide (85 ≤ c))).uNum (numS S c).toNat)) := by
        intro b hb
        have hb0 : 0 ≤ b ∧ b ≤ 9999 := by
          rw [hb]
          split
          · next hq => have := j9 (Or.inl hq); omega
          · omega
        by_cases h85 : c < 85
        · have hn : numS S c = (((20 * b) + c) - 65) + 1 := by unfold numS; rw [if_neg (by omega), hb]
          rw [if_pos h85, hn, if_pos (by omega), decide_eq_false (show ¬ 85 ≤ c by omega)]
          by_cases hq : 9999 < ((((20 * b) + c) - 65) + 1)
          · rw [if_pos hq, if_pos hq]
            exact ⟨_, rfl, bad, by decide, by decide⟩
          · rw [if_neg hq, if_neg hq]
            refine ⟨_, rfl, bad, hX, hR, hC, hP, fun _ => ⟨l1, l2, l3, l4, l5, l6, fun _ => ?_, rfl, rfl⟩⟩
            show (((20 * b) + c) - 65) + 1 = ((((((20 * b) + c) - 65) + 1).toNat : Nat) : Int)
            omega
        · have hn : numS S c = (((5 * b) + c) - 85) + 1 := by unfold numS; rw [if_pos (by omega), hb]
          rw [if_neg h85, hn, if_pos (by omega), decide_eq_true (show 85 ≤ c by omega)]
          by_cases hq : 9999 < ((((5 * b) + c) - 85) + 1)
          · rw [if_pos hq, if_pos hq]
            exact ⟨_, rfl, bad, by decide, by decide⟩
          · rw [if_neg hq, if_neg hq]
            refine ⟨_, rfl, bad, hX, hR, hC, hP, fun _ => ⟨l1, l2, l3, l4, l5, l6, fun _ => ?_, rfl, rfl⟩⟩
            show (((5 * b) + c) - 85) + 1 = ((((((5 * b) + c) - 85) + 1).toNat : Nat) : Int)
            omega
      cases hin : S.ins with
      | false =>
        rw [if_pos (by decide)]
        exact hnum 0 (by rw [hin]; rfl)
      | true =>
        rw [if_neg (by decide), l7 (Or.inl hin)]
        exact hnum (S.num : Int) (by rw [hin]; rfl)
theorem c_stepNum {S : RSt} {g : G2} (h : CRep S g) (hi : Iv S) (hs : S.stage = 13) (hbe : S.beh = true) (hn : 1 ≤ S.num) : OutC S (f_Letters_stepWithNumber_44 g) (stepNumS S) := by
  have h' := h
  obtain ⟨⟨hN, hS, hA, h38⟩, hX, hR, hC, hP, hL⟩ := h
  obtain ⟨l1, l2, l3, l4, l5, l6, l7, l8, l9⟩ := hL (by omega)
  obtain ⟨p1, p2, p3⟩ := hP (by omega)
  obtain ⟨j1, j2, j3, j4, j5, j6, j7, j8, j9, j10⟩ := hi.2.2.2.2.2.2.2.2.1 (by omega)
  have m40 : S.sms.length < 40 := (hi.2.2.2.2.2.2.1.1 (by omega)).2.1
  have hle : (hsOf S.sms.length S.cmand).length ≤ S.sms.length := by
    unfold hsOf
    exact Nat.le_trans (List.length_filter_le _ _) (by simp)
  have bad : CK S g := ⟨hN, hS, hA, h38⟩
  have e7 := l7 (Or.inr hbe)
  have j9' := j9 (Or.inr hbe)
  unfold f_Letters_stepWithNumber_44 stepNumS
  rw [e7, l1, if_pos (by omega), if_pos (by omega)]
  by_cases hq : S.refs.length < S.num
  · rw [if_pos (by omega), List.getElem?_eq_none (by omega), if_pos (by omega), l6, if_pos (by omega)]
    show OutC S _ (if S.tc ≤ S.num - S.refs.length - 1 then .error (-8) else if S.gap = true then .ok S else match S.tags[S.num - S.refs.length - 1]? with | some e => putS S e | none => .error (-8))
    by_cases ht : S.tc ≤ S.num - S.refs.length - 1
    · rw [if_neg (by omega), if_pos ht]
      exact ⟨g, rfl, bad, by decide, by decide⟩
    · rw [if_pos (by omega), if_neg ht, p3, if_pos (b01_ir _)]
      cases hg : S.gap with
      | true => exact ⟨g, rfl, h'⟩
      | false =>
        have htl := j8 hg
        obtain ⟨e, he⟩ := ex_get (l := S.tags) (k := S.num - S.refs.length - 1) (by omega)
        rw [if_pos (by decide), if_neg (by decide), he, show (((S.num : Int) - (S.refs.length : Int)) - 1) = ((S.num - S.refs.length - 1 : Nat) : Int) by omega]
        exact (c_put46 h' (hi.pu (by omega)) (by omega) _ e he (by omega) ((j5 e (List.mem_of_getElem? he)).1.2.1)).bd
  · obtain ⟨k, hk⟩ := ex_get (l := S.refs) (k := S.num - 1) (by omega)
    have e44 : rA g 44 ((S.num : Int) - 1) = (k : Int) := by
      show g.2.2.1 44 ((S.num : Int) - 1).toNat = _
      rw [show ((S.num : Int) - 1).toNat = S.num - 1 by omega]; exact l2 _ k hk
    rw [if_neg (by omega), if_pos (by omega), e44, hk]
    exact (c_stepWith h' hi (by omega) k (j4 k (List.mem_of_getElem? hk))).bd
