/-! ===== the class's steps: a statement's expression ===== -/
theorem row24 {S : RSt} (hi : Iv S) {k : Nat} {s : RSm} (h : S.sms[k]? = some s) : s.row.length ≤ 24 := ((hi.2.2.1 k s h).2.1).2.1
/-- a symbol behind the row in the making -/
theorem c_append {S : RSt} {g : G2} (hi : Iv S) (hS : CS S g) (hC : CC S g) (hst : 4 ≤ S.stage) (hl : S.crow.length < 24) (u : Nat) (b : Bool) :
    ∃ g', f_Expressions_append_11 (u : Int) (b01 b) g = some g' ∧ KK (fun r => r ≠ 11 ∧ r ≠ 12 ∧ r ≠ 13) g g' ∧ CS S g' ∧ g'.2.2.1 12 S.sms.length = ((S.crow ++ [u]).length : Int) ∧ g'.2.2.2 13 S.sms.length = (if b = true then S.cvs ||| bit u else S.cvs) ∧ RowAt (g'.2.2.1 11) (24 * S.sms.length) (S.crow ++ [u]) := by
  have hm : S.sms.length < 40 := (hi.2.2.2.2.2.2.1.1 hst).2.1
  obtain ⟨s1, s2⟩ := hS
  obtain ⟨c1, c2, c3, c4⟩ := hC.1 hst
  have e : (rI g 10 4).toNat = S.sms.length := by rw [s1, Int.toNat_natCast]
  have e12 : rA g 12 (rI g 10 4) = (S.crow.length : Int) := by show g.2.2.1 12 (rI g 10 4).toNat = _; rw [e]; exact c2
  have e13 : rB g 13 (rI g 10 4) = S.cvs := by show g.2.2.2 13 (rI g 10 4).toNat = _; rw [e]; exact c3
  have ep : (((rI g 10 4) * 24) + (rA g 12 (rI g 10 4))).toNat = 24 * S.sms.length + S.crow.length := by rw [e12, s1]; omega
  have k12 : ∀ (k : Nat) (s : RSm), S.sms[k]? = some s → am_upd (g.2.2.1 12) (rI g 10 4).toNat ((rA g 12 (rI g 10 4)) + 1) k = (s.row.length : Int) := by
    intro k s hks
    have hlt : k < S.sms.length := lt_get hks
    rw [e, am_updN (by omega)]; exact (s2 k s hks).2.2.1
  have k11 : ∀ (k : Nat) (s : RSm), S.sms[k]? = some s → RowAt (am_upd (g.2.2.1 11) (((rI g 10 4) * 24) + (rA g 12 (rI g 10 4))).toNat (u : Int)) (24 * k) s.row := by
    intro k s hks
    have hlt : k < S.sms.length := lt_get hks
    have h24 := row24 hi hks
    rw [ep]
    exact (s2 k s hks).2.2.2.1.upd _ _ (Or.inr (by omega))
  have n12 : am_upd (g.2.2.1 12) (rI g 10 4).toNat ((rA g 12 (rI g 10 4)) + 1) S.sms.length = ((S.crow ++ [u]).length : Int) := by
    rw [e, updN_at, e12]; simp
  have n11 : RowAt (am_upd (g.2.2.1 11) (((rI g 10 4) * 24) + (rA g 12 (rI g 10 4))).toNat (u : Int)) (24 * S.sms.length) (S.crow ++ [u]) := c4.app u _ rfl _ ep
  unfold f_Expressions_append_11
  rw [if_pos (by omega), if_pos (by rw [e12]; omega)]
  cases b with
  | false =>
    rw [if_pos (by decide), if_pos (by decide)]
    refine ⟨_, rfl, KK.a (by decide) (KK.a (by decide) KK.rf), ⟨s1, fun k s hks => ⟨(s2 k s hks).1, (s2 k s hks).2.1, k12 k s hks, k11 k s hks, (s2 k s hks).2.2.2.2⟩⟩, n12, c3, n11⟩
  | true =>
    rw [if_pos (by decide), if_neg (by decide)]
    refine ⟨_, rfl, KK.b (by decide) (KK.a (by decide) (KK.a (by decide) KK.rf)), ⟨s1, fun k s hks => ⟨(s2 k s hks).1, (s2 k s hks).2.1, k12 k s hks, k11 k s hks, ?_, (s2 k s hks).2.2.2.2.2⟩⟩, n12, ?_, n11⟩
    · show am_upd (g.2.2.2 13) (rI g 10 4).toNat _ k = _
      have hlt : k < S.sms.length := lt_get hks
      rw [e, am_updN (by omega)]; exact (s2 k s hks).2.2.2.2.1
    · show am_upd (g.2.2.2 13) (rI g 10 4).toNat _ S.sms.length = _
      rw [e, updN_at, e13]; rfl
theorem mean_cases (S : RSt) (c : Int64) : (mean S (fnd S c) = -1) ∨ (∃ (u : Nat) (x : RNm), fnd S c = (u : Int) ∧ u < S.nms.length ∧ S.nms[u]? = some x ∧ ((mean S (fnd S c) = 0 ∧ x.role = 0) ∨ (mean S (fnd S c) = 1 ∧ x.role ≠ 0 ∧ tb S.vars u = true))) := by
  rcases fnd_cases S c with q | ⟨u, x, q1, q2, q3, q4⟩
  · left; rw [q]; rfl
  · have e : mean S (fnd S c) = if x.role = 0 then 0 else if tb S.vars u = true then 1 else -1 := by
      unfold mean; rw [q1, if_neg (by omega), Int.toNat_natCast, rol_get q3]
    by_cases r0 : x.role = 0
    · right; exact ⟨u, x, q1, q2, q3, Or.inl ⟨by rw [e, if_pos r0], r0⟩⟩
    · by_cases hb : tb S.vars u = true
      · right; exact ⟨u, x, q1, q2, q3, Or.inr ⟨by rw [e, if_neg r0, if_pos hb], r0, hb⟩⟩
      · left; rw [e, if_neg r0, if_neg hb]
theorem c_takeType {S : RSt} {g : G2} (h : CRep S g) (hi : Iv S) (hs : S.stage = 5 ∨ S.stage = 8) (c : Int64) : OutC S (f_Reader_takeType_26 (fnd S c) g) (takeTypeS S (fnd S c)) := by
  obtain ⟨⟨hN, hS, hA, h38⟩, hX, hR, hC, hP, hL⟩ := h
  unfold f_Reader_takeType_26 takeTypeS
  rw [bd_some (c_mean hN hX hi c)]
  have hcr : S.crow = [] := hi.2.2.2.2.2.2.1.2.1 (by omega)
  rcases mean_cases S c with q | ⟨u, x, q1, q2, q3, ⟨q4, q5⟩ | ⟨q4, q5, q6⟩⟩
  · rw [q, if_pos (by decide), if_neg (by decide), if_pos rfl, if_pos (by decide), if_pos rfl]
    exact ⟨g, rfl, ⟨hN, hS, hA, h38⟩, by decide, by decide⟩
  · rw [q4, if_pos (by decide), if_pos rfl, if_neg (by decide), q1, Int.toNat_natCast]
    obtain ⟨g', a1, a2, a3, a4, a5, a6⟩ := c_append hi hS hC (by omega) (by rw [hcr]; show 0 < 24; decide) u false
    have a1' : f_Expressions_append_11 (u : Int) 0 g = some g' := a1
    rw [a1']
    have r6 : rI g' 25 6 = (S.stage : Int) := by rw [show rI g' 25 6 = rI g 25 6 from congrFun (a2 25 (by decide)).1 6]; exact hR.1
    have c9 : g'.2.2.1 9 S.sms.length = (S.ckind : Int) := by rw [(a2 9 (by decide)).2.2.1]; exact hC.2.1 (by omega)
    have c8 : g'.2.2.2 8 S.sms.length = S.clab := by rw [(a2 8 (by decide)).2.2.2]; exact (hC.1 (by omega)).1
    have hN' := hN.kk a2 (by decide)
    have hA' := hA.kk a2 (by decide) (by decide)
    have hX' := hX.kk a2 (by decide)
    have h38' := z38 h38 a2 (by decide)
    show OutC S (if ir (rI g' 25 6) then (if rI g' 25 6 = 5 then some (0, gI g' 25 6 6) else some (0, gI g' 25 6 9)) else none) _
    rw [if_pos (by omega)]
    rcases hs with hs | hs
    · rw [if_pos (by omega), if_pos hs]
      exact ⟨_, rfl, ⟨hN', a3, hA', h38'⟩, hX', ⟨rfl, fun _ q => absurd q (by show ¬ (6 ≤ 3); decide)⟩, ⟨fun _ => ⟨c8, a4, a5, a6⟩, fun _ => c9, fun q => absurd q (by show ¬ (10 ≤ 6); decide)⟩, fun q => absurd q (by show ¬ (10 ≤ 6); decide), fun q => absurd q (by show ¬ (12 ≤ 6); decide)⟩
    · rw [if_neg (by omega), if_neg (by omega)]
      exact ⟨_, rfl, ⟨hN', a3, hA', h38'⟩, hX', ⟨rfl, fun _ q => absurd q (by show ¬ (9 ≤ 3); decide)⟩, ⟨fun _ => ⟨c8, a4, a5, a6⟩, fun _ => c9, fun q => absurd q (by show ¬ (10 ≤ 9); decide)⟩, fun q => absurd q (by show ¬ (10 ≤ 9); decide), fun q => absurd q (by show ¬ (12 ≤ 9); decide)⟩
  · rw [q4, if_pos (by decide), if_neg (by decide), if_neg (by decide), if_pos (by decide), if_neg (by decide)]
    exact ⟨g, rfl, ⟨hN, hS, hA, h38⟩, by decide, by decide⟩
theorem c_takeFloating {S : RSt} {g : G2} (h : CRep S g) (hi : Iv S) (hs : S.stage = 6) (c : Int64) : OutC S (f_Reader_takeFloating_26 (fnd S c) g) (takeFloatingS S (fnd S c)) := by
  obtain ⟨⟨hN, hS, hA, h38⟩, hX, hR, hC, hP, hL⟩ := h
  have i0 := hi.1.1
  unfold f_Reader_takeFloating_26 takeFloatingS
  rw [bd_some (c_mean hN hX hi c)]
  obtain ⟨cc, hcr, _⟩ := hi.2.2.2.2.2.2.1.2.2.2.2.2.2.1 hs
  rcases mean_cases S c with q | ⟨u, x, q1, q2, q3, ⟨q4, q5⟩ | ⟨q4, q5, q6⟩⟩
  · rw [q, if_pos (by decide), if_neg (by decide), if_pos rfl, if_pos (by decide), if_pos rfl]
    exact ⟨g, rfl, ⟨hN, hS, hA, h38⟩, by decide, by decide⟩
  · rw [q4, if_pos (by decide), if_neg (by decide), if_neg (by decide), if_pos (by decide), if_neg (by decide)]
    exact ⟨g, rfl, ⟨hN, hS, hA, h38⟩, by decide, by decide⟩
  · rw [q4, if_pos (by decide), if_pos rfl, if_neg (by decide), q1, bd_some (c_isTyped hX (by omega)), Int.toNat_natCast]
    cases hb : tb S.typed u with
    | true =>
      rw [if_pos (by decide), if_neg (by decide), if_pos rfl]
      exact ⟨g, rfl, ⟨hN, hS, hA, h38⟩, by decide, by decide⟩
    | false =>
      rw [if_pos (by decide), if_pos (by decide), if_neg (by decide)]
      obtain ⟨g', a1, a2, a3, a4, a5, a6⟩ := c_append hi hS hC (by omega) (by rw [hcr]; show 1 < 24; decide) u true
      have a1' : f_Expressions_append_11 (u : Int) 1 g = some g' := a1
      rw [a1']
      have c9 : g'.2.2.1 9 S.sms.length = (S.ckind : Int) := by rw [(a2 9 (by decide)).2.2.1]; exact hC.2.1 (by omega)
      have c8 : g'.2.2.2 8 S.sms.length = S.clab := by rw [(a2 8 (by decide)).2.2.2]; exact (hC.1 (by omega)).1
      have hN' := hN.kk a2 (by decide)
      have hA' := hA.kk a2 (by decide) (by decide)
      have hX' := hX.kk a2 (by decide)
      have h38' := z38 h38 a2 (by decide)
      exact ⟨gI g' 25 6 7, rfl, ⟨hN', a3, hA', h38'⟩, hX', ⟨rfl, fun _ q => absurd q (by show ¬ (7 ≤ 3); decide)⟩, ⟨fun _ => ⟨c8, a4, a5, a6⟩, fun _ => c9, fun q => absurd q (by show ¬ (10 ≤ 7); decide)⟩, fun q => absurd q (by show ¬ (10 ≤ 7); decide), fun q => absurd q (by show ¬ (12 ≤ 7); decide)⟩
theorem c_takeSymbol {S : RSt} {g : G2} (h : CRep S g) (hi : Iv S) (hs : S.stage = 9) (c : Int64) : OutC S (f_Reader_takeSymbol_26 (fnd S c) g) (takeSymbolS S (fnd S c)) := by
  obtain ⟨⟨hN, hS, hA, h38⟩, hX, hR, hC, hP, hL⟩ := h
  have i0 := hi.1.1
  have hm : S.sms.length < 40 := (hi.2.2.2.2.2.2.1.1 (by omega)).2.1
  have h24 : S.crow.length ≤ 24 := ((hi.2.2.2.2.2.2.1.2.2.2.2.2.2.2.2 (by omega)).1).2.1
  have s1 := hS.1
  have e12 : rA g 12 (rI g 10 4) = (S.crow.length : Int) := by show g.2.2.1 12 (rI g 10 4).toNat = _; rw [s1, Int.toNat_natCast]; exact (hC.1 (by omega)).2.1
  have room : f_Expressions_rowHasRoom_11 1 g = some ((if 24 < S.crow.length + 1 then 0 else 1), g) := by
    unfold f_Expressions_rowHasRoom_11
    rw [if_pos (by omega), e12, if_pos (by omega)]
    by_cases q : 24 < S.crow.length + 1
    · rw [if_pos (by omega), if_pos q]
    · rw [if_neg (by omega), if_neg q]
  have app : ∀ (u : Nat) (b : Bool), S.crow.length < 24 → ∃ g', f_Expressions_append_11 (u : Int) (b01 b) g = some g' ∧ CRep ((S.uCrow (S.crow ++ [u])).uCvs (if b = true then S.cvs ||| bit u else S.cvs)) g' := by
    intro u b hl
    obtain ⟨g', a1, a2, a3, a4, a5, a6⟩ := c_append hi hS hC (by omega) hl u b
    have c9 : g'.2.2.1 9 S.sms.length = (S.ckind : Int) := by rw [(a2 9 (by decide)).2.2.1]; exact hC.2.1 (by omega)
    have c8 : g'.2.2.2 8 S.sms.length = S.clab := by rw [(a2 8 (by decide)).2.2.2]; exact (hC.1 (by omega)).1
    exact ⟨g', a1, ⟨hN.kk a2 (by decide), a3, hA.kk a2 (by decide) (by decide), z38 h38 a2 (by decide)⟩, hX.kk a2 (by decide), hR.kk a2 (by decide), ⟨fun _ => ⟨c8, a4, a5, a6⟩, fun _ => c9, fun q => absurd q (by show ¬ (10 ≤ S.stage); omega)⟩, fun q => absurd q (by show ¬ (10 ≤ S.stage); omega), fun q => absurd q (by show ¬ (12 ≤ S.stage); omega)⟩
  have bad : CK S g := ⟨hN, hS, hA, h38⟩
  have rm0 : 24 < S.crow.length + 1 → f_Expressions_rowHasRoom_11 1 g = some (0, g) := fun q => by rw [room, if_pos q]
  have rm1 : ¬ 24 < S.crow.length + 1 → f_Expressions_rowHasRoom_11 1 g = some (1, g) := fun q => by rw [room, if_neg q]
  have hM := c_mean hN hX hi c
  rcases mean_cases S c with q | ⟨u, x, q1, q2, q3, ⟨q4, q5⟩ | ⟨q4, q5, q6⟩⟩
  · unfold f_Reader_takeSymbol_26 takeSymbolS
    rw [bd_some hM, q, if_pos (by decide), if_pos rfl, if_pos (Or.inl rfl)]
    exact ⟨g, rfl, bad, by decide, by decide⟩
  · have er : takeSymbolS S (fnd S c) = if 24 < S.crow.length + 1 then .error (-7) else .ok ((S.uCrow (S.crow ++ [u])).uCvs S.cvs) := by
      unfold takeSymbolS
      rw [q4, if_neg (by omega), q1, Int.toNat_natCast, if_neg (show ¬ (0 : Int) = 1 by decide)]
    rw [er]
    unfold f_Reader_takeSymbol_26
    rw [bd_some hM, q4, if_pos (by decide), if_neg (by decide), if_neg (by decide)]
    by_cases q : 24 < S.crow.length + 1
    · rw [bd_some (rm0 q), if_pos (by decide), if_pos rfl, if_pos q]
      exact ⟨g, rfl, bad, by decide, by decide⟩
    · obtain ⟨g', a1, a2⟩ := app u false (by omega)
      have a1' : f_Expressions_append_11 (u : Int) 0 g = some g' := a1
      rw [bd_some (rm1 q), if_pos (by decide), if_neg (by decide), if_neg (by decide), if_neg q, q1, a1']
      exact ⟨g', rfl, a2⟩
  · have er : takeSymbolS S (fnd S c) = if tb S.typed u = false then .error (-4) else if 24 < S.crow.length + 1 then .error (-7) else .ok ((S.uCrow (S.crow ++ [u])).uCvs (S.cvs ||| bit u)) := by
      unfold takeSymbolS
      rw [q4, q1, Int.toNat_natCast, if_pos (show (1 : Int) = 1 from rfl)]
      by_cases hb : tb S.typed u = false
      · rw [if_pos (Or.inr ⟨rfl, hb⟩), if_pos hb]
      · rw [if_neg (fun z => z.elim (fun w => absurd w (by decide)) (fun w => hb w.2)), if_neg hb]
    rw [er]
    unfold f_Reader_takeSymbol_26
    rw [bd_some hM, q4, if_pos (by decide), if_neg (by decide), if_pos rfl, q1, bd_some (c_isTyped hX (by omega))]
    cases hb : tb S.typed u with
    | false =>
      rw [if_pos (by decide), if_pos (by decide), if_pos rfl]
      exact ⟨g, rfl, bad, by decide, by decide⟩
    | true =>
      rw [if_pos (by decide), if_neg (by decide)]
      by_cases q : 24 < S.crow.length + 1
      · rw [bd_some (rm0 q), if_pos (by decide), if_pos rfl, if_neg (by decide), if_pos q]
        exact ⟨g, rfl, bad, by decide, by decide⟩
      · obtain ⟨g', a1, a2⟩ := app u true (by omega)
        have a1' : f_Expressions_append_11 (u : Int) 1 g = some g' := a1
        rw [bd_some (rm1 q), if_pos (by decide), if_neg (by decide), if_pos rfl, if_neg (by decide), if_neg q, a1']
        exact ⟨g', rfl, a2⟩
theorem c_takeKind {S : RSt} {g : G2} (h : CRep S g) (hi : Iv S) (hs : S.stage = 4) (k : Int) (hk : ir k) : OutC S (f_Reader_takeKind_26 k g) (takeKindS S k) := by
  obtain ⟨⟨hN, hS, hA, h38⟩, hX, hR, hC, hP, hL⟩ := h
  have hm : S.sms.length < 40 := (hi.2.2.2.2.2.2.1.1 (by omega)).2.1
  obtain ⟨s1, s2⟩ := hS
  have e : (rI g 10 4).toNat = S.sms.length := by rw [s1, Int.toNat_natCast]
  have key : ∀ (v t : Nat), 5 ≤ t → t < 10 → CRep ((S.uCkind v).uStage t) (gI (gA g 9 (rI g 10 4) (v : Int)) 25 6 (t : Int)) := by
    intro v t ht1 ht2
    refine ⟨⟨hN, ⟨s1, fun k s hks => ?_⟩, hA, h38⟩, hX, ⟨rfl, fun _ q => absurd q (by show ¬ (t ≤ 3); omega)⟩, ⟨fun _ => hC.1 (by omega), fun _ => ?_, fun q => absurd q (by show ¬ (10 ≤ t); omega)⟩, fun q => absurd q (by show ¬ (10 ≤ t); omega), fun q => absurd q (by show ¬ (12 ≤ t); omega)⟩
    · have hlt : k < S.sms.length := lt_get hks
      obtain ⟨a1, a2, a3⟩ := s2 k s hks
      refine ⟨a1, ?_, a3⟩
      show am_upd (g.2.2.1 9) (rI g 10 4).toNat _ k = _
      rw [e, am_updN (by omega)]; exact a2
    · show am_upd (g.2.2.1 9) (rI g 10 4).toNat _ S.sms.length = _
      rw [e, updN_at]
  unfold f_Reader_takeKind_26 takeKindS
  rw [if_pos hk]
  by_cases h1 : k = 97
  · rw [if_pos h1, if_pos h1, if_pos (by omega), if_neg (by omega)]
    exact ⟨_, rfl, key 2 8 (by decide) (by decide)⟩
  · rw [if_neg h1, if_neg h1]
    by_cases h2 : k = 101
    · rw [if_pos h2, if_pos h2, if_pos (by omega), if_neg (by omega)]
      exact ⟨_, rfl, key 1 8 (by decide) (by decide)⟩
    · rw [if_neg h2, if_neg h2]
      by_cases h3 : k = 102
      · rw [if_pos h3, if_pos h3, if_pos (by omega), if_pos h3]
        exact ⟨_, rfl, key 0 5 (by decide) (by decide)⟩
      · rw [if_neg h3, if_neg h3]
        by_cases h4 : k = 112
        · rw [if_pos h4, if_pos h4, if_pos (by omega), if_neg h3]
          exact ⟨_, rfl, key 3 8 (by decide) (by decide)⟩
        · rw [if_neg h4, if_neg h4, if_neg h3]
          exact ⟨g, rfl, ⟨hN, ⟨s1, s2⟩, hA, h38⟩, by decide, by decide⟩
