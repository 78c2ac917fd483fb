theorem CRep.b4 {S : RSt} {g g' : G2} (h : CRep S g) (k : SB4 g g') : CRep S g' := by
  obtain ⟨⟨hN, hS, hA, h38⟩, hX, hR, hC, hP, hL⟩ := h
  exact ⟨⟨hN.kk k (by decide), hS.kk k (by decide), hA.kk k (by decide) (by decide), z38 h38 k (by decide)⟩, hX.kk k (by decide), hR.kk k (by decide), hC.kk k (by decide) (by decide), hP.kk k (by decide), hL.kk k (by decide)⟩
theorem snd_get {S : RSt} {j : Nat} {x : RAs} (h : S.ass[j]? = some x) : sndS S j = x.snd := by unfold sndS; rw [h]; rfl
theorem prs_get {S : RSt} {j : Nat} {x : RAs} (h : S.ass[j]? = some x) : prsS S j = x.prs := by unfold prsS; rw [h]; rfl
theorem b01_ir (b : Bool) : ir (b01 b) := by cases b <;> decide
theorem b01_0 (b : Bool) : b01 b = 0 ↔ b = false := by cases b <;> decide
theorem c_noteUse {S : RSt} {g : G2} (h : CRep S g) (hs : 10 ≤ S.stage) (ha : S.ass.length < 40) (j : Nat) (x : RAs) (hj : S.ass[j]? = some x) (b : Nat) (hb : b ≤ S.stk.length) :
    ∃ g', f_Assertions_noteUse_17 (j : Int) (gI g 34 4 (b : Int)) = some g' ∧ KK (fun r => r ≠ 22 ∧ r ≠ 24 ∧ r ≠ 34) g g' ∧ CRep ((S.uStk (S.stk.take b)).uCa ((S.ca.uUse (am_upd S.ca.use j (S.ca.use j + 1))).uSnd (S.ca.snd && sndS S j))) g' := by
  obtain ⟨⟨hN, hS, hA, h38⟩, hX, hR, hC, hP, hL⟩ := h
  obtain ⟨a1, a2⟩ := hA
  obtain ⟨p1, p2, p3⟩ := hP hs
  obtain ⟨c1, c2, c3⟩ := hC
  obtain ⟨d1, d2, ⟨y1, y2, y3, y4, y5, y6, y7, y8⟩⟩ := c3 hs
  have hjl := lt_get hj
  have ea : (rI g 16 8).toNat = S.ass.length := by rw [a1, Int.toNat_natCast]
  have a1' : rI (gI g 34 4 (b : Int)) 16 8 = (S.ass.length : Int) := a1
  have e24 : rA (gI g 34 4 (b : Int)) 24 (S.ass.length : Int) = b01 S.ca.snd := y8
  have e24j : rA (gI g 34 4 (b : Int)) 24 (j : Int) = b01 x.snd := (a2 j x hj).2.2.2.2.2.2.2
  have e22 : rA (gI g 34 4 (b : Int)) 22 (((S.ass.length : Int) * 40) + (j : Int)) = (S.ca.use j : Int) := by
    show g.2.2.1 22 (((S.ass.length : Int) * 40) + (j : Int)).toNat = _
    rw [show (((S.ass.length : Int) * 40) + (j : Int)).toNat = 40 * S.ass.length + j by omega]
    exact y6 j (by omega)
  have hrun : f_Assertions_noteUse_17 (j : Int) (gI g 34 4 (b : Int)) = some (gA (gA (gI g 34 4 (b : Int)) 22 (((S.ass.length : Int) * 40) + (j : Int)) ((S.ca.use j : Int) + 1)) 24 (S.ass.length : Int) (b01 (S.ca.snd && x.snd))) := by
    unfold f_Assertions_noteUse_17
    rw [a1', if_pos (by omega), if_pos (by omega), e24, if_pos (b01_ir _), e22, if_pos (show 0 ≤ (j : Int) ∧ (j : Int) < 40 by omega), e24j, if_pos (b01_ir _)]
    cases S.ca.snd with
    | false => rfl
    | true => cases x.snd <;> rfl
  refine ⟨_, hrun, KK.a (by decide) (KK.a (by decide) (KK.i (by decide) KK.rf)), ⟨hN, hS, ⟨a1, fun i z hz => ?_⟩, h38⟩, hX, hR, ⟨c1, c2, fun _ => ⟨d1, d2, ⟨y1, y2, y3, y4, y5, fun i hi => ?_, y7, ?_⟩⟩⟩, fun _ => ⟨?_, fun r e he => ?_, p3⟩, hL⟩
  · have hlt : i < S.ass.length := lt_get hz
    obtain ⟨z1, z2, z3, z4, z5, z6, z7, z8⟩ := a2 i z hz
    refine ⟨z1, z2, z3, z4, z5, fun q hq => ?_, z7, ?_⟩
    · show am_upd (g.2.2.1 22) (((S.ass.length : Int) * 40) + (j : Int)).toNat _ (40 * i + q) = _
      rw [am_updN (by omega)]; exact z6 q hq
    · show am_upd (g.2.2.1 24) S.ass.length _ i = _
      rw [am_updN (by omega)]; exact z8
  · show am_upd (g.2.2.1 22) (((S.ass.length : Int) * 40) + (j : Int)).toNat _ (40 * S.ass.length + i) = ((am_upd S.ca.use j (S.ca.use j + 1) i : Nat) : Int)
    rw [show (((S.ass.length : Int) * 40) + (j : Int)).toNat = 40 * S.ass.length + j by omega]
    by_cases q : i = j
    · subst q; rw [updN_at, updN_at]; rfl
    · rw [am_updN (by omega), am_updN q]; exact y6 i hi
  · show am_upd (g.2.2.1 24) S.ass.length _ S.ass.length = b01 (S.ca.snd && sndS S j)
    rw [updN_at, snd_get hj]
  · show (b : Int) = ((S.stk.take b).length : Int)
    rw [List.length_take]; omega
  · have he2 : (S.stk.take b)[r]? = some e := he
    have hlt := lt_get he2
    rw [List.length_take] at hlt
    rw [List.getElem?_take, if_pos (by omega)] at he2
    exact p2 r e he2
theorem c_stepWith {S : RSt} {g : G2} (h : CRep S g) (hi : Iv S) (hs : 10 ≤ S.stage) (k : Nat) (hk : k < S.sms.length) : OutC S (f_Proof_stepWith_34 (k : Int) g) (stepWithS S k) := by
  have h' := h
  obtain ⟨⟨hN, hS, hA, h38⟩, hX, hR, hC, hP, hL⟩ := h
  have m40 : S.sms.length ≤ 40 := hi.1.2.1
  have n60 := hi.1.1
  have hpu := hi.pu hs
  obtain ⟨_, _, _, i4, i16, iSt, _⟩ := hi.2.2.2.2.2.2.2.1 hs
  obtain ⟨p1, p2, p3⟩ := hP hs
  obtain ⟨s, hks⟩ := ex_get hk
  obtain ⟨z1, z2, z3, z4, z5⟩ := hi.2.2.1 k s hks
  obtain ⟨w1, w2, w3, w4, w5, w6⟩ := hS.2 k s hks
  have bad : CK S g := ⟨hN, hS, hA, h38⟩
  unfold f_Proof_stepWith_34 stepWithS
  rw [p3, if_pos (b01_ir _), hks]
  cases hg : S.gap with
  | true =>
    rw [if_neg (by decide), if_pos rfl]
    exact ⟨g, rfl, h'⟩
  | false =>
    rw [if_pos (by decide), if_neg (by decide), bd_some (c_isHypo (S := S) k s.kind (by omega) w2 z1)]
    show OutC S _ (if s.kind ≤ 1 then putS S (s.row, s.vs) else if S.stk.length < (hsOf k s.mand).length then .error (-9) else match bindS S (hsOf k s.mand) (S.stk.length - (hsOf k s.mand).length) (fun _ => 0) with | none => .error (-10) | some σ => useS S k s (S.stk.length - (hsOf k s.mand).length) σ)
    by_cases hk1 : s.kind ≤ 1
    · rw [if_pos hk1, if_pos (by decide), if_neg (by decide), if_pos hk1]
      exact (c_put11 h' hpu k s hks (by omega) z2.2.1).bd
    · obtain ⟨hasn, hbnd⟩ := z5 (by omega)
      obtain ⟨h14, h15⟩ := w6 (by omega)
      have hb1 := hbnd.1
      have hcnt : cnt (tb s.mand) 64 = (hsOf k s.mand).length := by
        rw [hsOf_cnt]
        exact cnt_bits (by omega) (fun i hi => by
          by_cases q : tb s.mand i = true
          · simp [(hb1 i hi q).1]
          · simp [q])
      have hcle := cnt_le (tb s.mand) 64
      have e14 : rB g 14 ((k : Nat) : Int) = s.mand := h14
      rw [if_neg hk1, if_pos (by decide), if_pos rfl, if_neg hk1, if_pos (by omega), e14, bd_some (e_bitCount s.mand g), p1, hcnt, if_pos (by omega)]
      by_cases hlt : S.stk.length < (hsOf k s.mand).length
      · rw [if_pos (by omega), if_pos hlt]
        exact ⟨g, rfl, bad, by decide, by decide⟩
      · rw [if_neg (by omega), if_neg hlt]
        have hbase : ((S.stk.length : Int) - ((hsOf k s.mand).length : Int)) = ((S.stk.length - (hsOf k s.mand).length : Nat) : Int) := by omega
        rw [hbase]
        obtain ⟨g1, a1, a2, a3⟩ := c_bindL hN hS hP h38 hi hs k s hks h14 hbnd k 20000 0 (S.stk.length - (hsOf k s.mand).length) (fun _ => 0) g (by omega) (by omega) KK.rf (by rw [hsF_0]; omega) (fun v hv => by obtain ⟨f, _, f2, _⟩ := hv; omega)
        rw [hsF_0] at a1 a3
        have a1' : f_Proof_bind_34 (k : Int) ((S.stk.length - (hsOf k s.mand).length : Nat) : Int) g = some (b01 (bindS S (hsOf k s.mand) (S.stk.length - (hsOf k s.mand).length) (fun _ => 0)).isSome, g1) := a1
        rw [bd_some a1']
        have h1 := h'.b4 a2
        cases hbs : bindS S (hsOf k s.mand) (S.stk.length - (hsOf k s.mand).length) (fun _ => 0) with
        | none => exact ⟨g1, rfl, h1.1, by decide, by decide⟩
        | some σ =>
          have hrp := a3 σ hbs
          obtain ⟨x, hx⟩ := ex_get hasn
          have hprs := prs_get hx
          have e15 : rA g1 15 ((k : Nat) : Int) = (s.asn : Int) := by show g1.2.2.1 15 k = _; rw [(a2 15 (by decide)).2.2.1]; exact h15
          have ha40 : S.ass.length < 40 := hpu.2.1
          obtain ⟨bl, bp⟩ := hbnd.2.2.2
          have hasx := (h1.1.2.2.1).2 s.asn x hx
          obtain ⟨r, c1, c2⟩ := c_keepsL h1.2.1 h1.2.2.2.2.1 hs i16 n60 s.asn (by omega) x.prs σ hasx.2.1 hasx.2.2.1 (by rw [← hprs]; exact bl) (fun p hp => by
            obtain ⟨q1, q2, q3, q4⟩ := bp p (by rw [hprs]; exact hp)
            exact ⟨q1, q2, hrp _ q3, hrp _ q4⟩) x.prs.length 20000 0 (by omega) (by
              have : x.prs.length ≤ 40 := by rw [← hprs]; exact bl
              omega)
          have c1' : f_Proof_keepsApart_34 (s.asn : Int) g1 = some (r, g1) := c1
          show OutC S (if ir (1 : Int) then if (1 : Int) = 0 then some (-10, g1) else bd (f_Proof_keepsApart_34 (rA g1 15 (k : Int)) g1) fun r13 g13 => if ir r13 then if r13 = 0 then some (-11, g13) else bd (f_Proof_replaceIn_34 (k : Int) g13) fun r16 g16 => if ir r16 then if r16 = 0 then some (-7, g16) else (f_Assertions_noteUse_17 (rA g16 15 (k : Int)) (gI g16 34 4 ((S.stk.length - (hsOf k s.mand).length : Nat) : Int))).bind fun g19 => bd (f_Proof_put_34_39 0 g19) fun r20 g20 => some (r20, g20) else none else none else none) (useS S k s (S.stk.length - (hsOf k s.mand).length) σ)
          rw [if_pos (by decide), if_neg (by decide), e15, bd_some c1']
          unfold useS
          have hiff : (∀ (u : Nat) (p : Nat × Nat), 0 ≤ u → x.prs[u]? = some p → apartS S (stV S (σ p.1)) (stV S (σ p.2))) ↔ keepsS S σ (prsS S s.asn) := by
            rw [hprs]
            constructor
            · intro hh p hp
              obtain ⟨u, hu⟩ := List.getElem?_of_mem hp
              exact hh u p (by omega) hu
            · intro hh u p _ hu
              exact hh p (List.mem_of_getElem? hu)
          rcases c2 with ⟨d1, d2⟩ | ⟨d1, d2⟩
          · rw [d1, if_pos (by decide), if_neg (by decide), if_pos (hiff.mp d2)]
            obtain ⟨g2, f1, f2, f3⟩ := c_replaceIn h1.1.1 h1.1.2.1 h1.2.2.2.2.1 h1.1.2.2.2 hs i16 iSt n60 σ k s hks (by omega) z2 (fun v hv hrv => hrp v (hbnd.2.1 v hv hrv))
            rw [bd_some f1]
            by_cases hlen : (repS S σ s.row).1.length ≤ 24
            · rw [decide_eq_true hlen, if_pos (by decide), if_neg (by decide), if_neg (by omega)]
              have h2 := h1.b4 f2.b4
              have e15' : rA g2 15 ((k : Nat) : Int) = (s.asn : Int) := by show g2.2.2.1 15 k = _; rw [(f2 15 (by decide)).2.2.1]; exact e15
              obtain ⟨g3, q1, q2, q3⟩ := c_noteUse h2 hs ha40 s.asn x hx (S.stk.length - (hsOf k s.mand).length) (by omega)
              rw [e15', q1, Option.bind_some]
              obtain ⟨y0, y1, y2, y3⟩ := f3 hlen
              have hR3 : Rsl g3 (repS S σ s.row) := by
                refine ⟨q3.1.2.2.2, ?_, ?_, ?_⟩
                · rw [(q2 40 (by decide)).2.2.1]; exact y1
                · rw [(q2 39 (by decide)).2.2.1]; exact y2
                · rw [(q2 41 (by decide)).2.2.2]; exact y3
              have hpu3 : PuOk ((S.uStk (S.stk.take (S.stk.length - (hsOf k s.mand).length))).uCa ((S.ca.uUse (am_upd S.ca.use s.asn (S.ca.use s.asn + 1))).uSnd (S.ca.snd && sndS S s.asn))) := by
                refine ⟨hs, ha40, i4, ?_, fun e he => hpu.2.2.2.2 e (List.mem_of_mem_take he)⟩
                show (S.stk.take _).length ≤ 16
                rw [List.length_take]; omega
              have hfin := (c_put39 q3 hpu3 (repS S σ s.row) hR3 hlen).bd
              revert hfin
              unfold putS
              by_cases q16 : 16 ≤ ((S.uStk (S.stk.take (S.stk.length - (hsOf k s.mand).length))).uCa ((S.ca.uUse (am_upd S.ca.use s.asn (S.ca.use s.asn + 1))).uSnd (S.ca.snd && sndS S s.asn))).stk.length
              · rw [if_pos q16]; exact fun z => z
              · rw [if_neg q16]; exact fun z => z
            · rw [decide_eq_false hlen, if_pos (by decide), if_pos (by decide), if_pos (by omega)]
              exact ⟨g2, rfl, (h1.b4 f2.b4).1, by decide, by decide⟩
          · rw [d1, if_pos (by decide), if_pos rfl, if_neg (fun z => d2 (hiff.mpr z))]
            exact ⟨g1, rfl, h1.1, by decide, by decide⟩
