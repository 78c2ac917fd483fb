/-! ===== the class's steps: variables, pairs, scopes ===== -/
theorem c_isActive {S : RSt} {g : G2} (hx : CX S g) {u : Nat} (hu : u < 64) : f_Reader_isActive_26 (u : Int) g = some (b01 (tb S.vars u), g) := by
  obtain ⟨⟨x1, x2, x3⟩, _⟩ := hx
  unfold f_Reader_isActive_26
  rw [x1]
  cases hb : tb S.vars u with
  | true => rw [if_neg (by rw [tb_t hu]; simp [hb])]; rfl
  | false => rw [if_pos (by rw [tb_t hu]; simp [hb])]; rfl
theorem c_isTyped {S : RSt} {g : G2} (hx : CX S g) {u : Nat} (hu : u < 64) : f_Reader_isTyped_26 (u : Int) g = some (b01 (tb S.typed u), g) := by
  obtain ⟨⟨x1, x2, x3⟩, _⟩ := hx
  unfold f_Reader_isTyped_26
  rw [x2]
  cases hb : tb S.typed u with
  | true => rw [if_neg (by rw [tb_t hu]; simp [hb])]; rfl
  | false => rw [if_pos (by rw [tb_t hu]; simp [hb])]; rfl
theorem c_isHyp {S : RSt} {g : G2} (hx : CX S g) {u : Nat} (hu : u < 64) : f_Reader_isActiveHypothesis_26 (u : Int) g = some (b01 (tb S.hyps u), g) := by
  obtain ⟨⟨x1, x2, x3⟩, _⟩ := hx
  unfold f_Reader_isActiveHypothesis_26
  rw [x3]
  cases hb : tb S.hyps u with
  | true => rw [if_neg (by rw [tb_t hu]; simp [hb])]; rfl
  | false => rw [if_pos (by rw [tb_t hu]; simp [hb])]; rfl
theorem updN_at {α : Type} (f : Nat → α) (k : Nat) (x : α) : am_upd f k x k = x := by unfold am_upd; rw [if_pos rfl]
/-- a name is added: what the names' cells hold then -/
theorem nm_app {l : List RNm} {f4 : Nat → Int64} {f5 f6 : Nat → Int} {y : RNm} {p : Int} {v : Int} (hp : p = (l.length : Int)) (hv : v = (y.role : Int)) (h : ∀ (i : Nat) (x : RNm), l[i]? = some x → f4 i = x.code ∧ f5 i = (x.role : Int) ∧ (x.role = 2 → f6 i = (x.lst : Int))) (h6 : y.role = 2 → f6 l.length = (y.lst : Int)) : ∀ (i : Nat) (x : RNm), (l ++ [y])[i]? = some x → am_upd f4 p.toNat y.code i = x.code ∧ am_upd f5 p.toNat v i = (x.role : Int) ∧ (x.role = 2 → f6 i = (x.lst : Int)) := by
  intro i x hx
  have e : p.toNat = l.length := by rw [hp, Int.toNat_natCast]
  rw [e]
  rcases ap_get hx with ⟨a1, a2⟩ | ⟨a1, a2⟩
  · rw [am_updN (by omega), am_updN (by omega)]; exact h i x a2
  · subst a1; subst a2
    rw [updN_at, updN_at]; exact ⟨rfl, hv, h6⟩
theorem c_declareVariable {S : RSt} {g : G2} (h : CRep S g) (hi : Iv S) (hs : S.stage = 2) (c : Int64) : OutC S (f_Reader_declareVariable_26 c g) (declareVariableS S c) := by
  obtain ⟨⟨hN, hS, hA, h38⟩, hX, hR, hC, hP, hL⟩ := h
  have i0 := hi.1.1
  unfold f_Reader_declareVariable_26 declareVariableS
  rw [bd_some (c_find hN i0 c)]
  rcases fnd_cases S c with h1 | ⟨u, x, q1, q2, q3, q4⟩
  · rw [if_pos (by omega), if_pos h1, if_pos h1, bd_some (c_isFull hN i0)]
    by_cases h2 : 60 ≤ S.nms.length
    · rw [if_pos h2, if_pos (by decide), if_neg (by decide), if_pos h2]
      exact ⟨g, rfl, ⟨hN, hS, hA, h38⟩, by decide, by decide⟩
    · rw [if_neg h2, if_pos (by decide), if_pos rfl, if_neg h2, if_pos h1]
      obtain ⟨n1, n2, n3, n4⟩ := hN
      obtain ⟨r1, r2⟩ := hR
      obtain ⟨⟨x1, x2, x3⟩, x4⟩ := hX
      unfold f_Names_add_4
      rw [if_pos (by omega), if_pos (by decide), if_neg (by decide), if_pos rfl]
      refine ⟨_, rfl, ⟨⟨?_, n2, ?_, nm_app n1 rfl n4 (fun q => absurd (show (1 : Nat) = 2 from q) (by decide))⟩, hS, hA, h38⟩, ⟨⟨?_, x2, x3⟩, x4⟩, ⟨r1, fun _ _ => ⟨?_, (r2 (by omega) (by omega)).2⟩⟩, hC, hP, hL⟩
      · show rI g 3 3 + 1 = _
        rw [n1]; exact len1 _ _
      · show rJ g 3 5 ||| _ = _
        rw [n3, n1]
      · show rJ g 26 0 ||| _ = _
        rw [x1, n1]
      · show rI g 25 7 + 1 = _
        rw [(r2 (by omega) (by omega)).1]; exact nat1 _
  · have e5 : rA g 5 ((u : Nat) : Int) = (x.role : Int) := (hN.2.2.2 u x q3).2.1
    have r2' := (hi.2.1 u x q3).1
    rw [q1, if_pos (by omega), if_neg (by omega), if_neg (by omega), if_pos (by omega), e5, if_pos (by omega), if_neg (show ¬ (u : Int) = -1 by omega), Int.toNat_natCast, rol_get q3]
    by_cases r0 : x.role = 1
    · rw [if_pos (by omega), bd_some (c_isActive hX (by omega))]
      cases hb : tb S.vars u with
      | true =>
        rw [if_pos (by decide), if_neg (by decide), if_pos (Or.inr rfl)]
        exact ⟨g, rfl, ⟨hN, hS, hA, h38⟩, by decide, by decide⟩
      | false =>
        rw [if_pos (by decide), if_pos (by decide), if_neg (by simp [r0])]
        obtain ⟨r1, r2⟩ := hR
        obtain ⟨⟨x1, x2, x3⟩, x4⟩ := hX
        refine ⟨_, rfl, ⟨hN, hS, hA, h38⟩, ⟨⟨?_, x2, x3⟩, x4⟩, ⟨r1, fun _ _ => ⟨?_, (r2 (by omega) (by omega)).2⟩⟩, hC, hP, hL⟩
        · show rJ g 26 0 ||| _ = _
          rw [x1]
        · show rI g 25 7 + 1 = _
          rw [(r2 (by omega) (by omega)).1]; exact nat1 _
    · rw [if_neg (by omega), if_pos (Or.inl r0)]
      exact ⟨g, rfl, ⟨hN, hS, hA, h38⟩, by decide, by decide⟩
theorem c_takeLabel {S : RSt} {g : G2} (h : CRep S g) (hi : Iv S) (hs : S.stage = 0) (c : Int64) : OutC S (f_Reader_takeLabel_26 c g) (takeLabelS S c) := by
  obtain ⟨⟨hN, hS, hA, h38⟩, hX, hR, hC, hP, hL⟩ := h
  have i0 := hi.1.1
  have m1 : S.sms.length ≤ 40 := hi.1.2.1
  have s1 := hS.1
  unfold f_Reader_takeLabel_26 takeLabelS
  rw [bd_some (c_find hN i0 c)]
  rcases fnd_cases S c with h1 | ⟨u, x, q1, q2, q3, q4⟩
  · rw [if_pos (by omega), if_pos h1, if_neg (fun q => q h1), bd_some (c_isFull hN i0)]
    by_cases h2 : 60 ≤ S.nms.length
    · rw [if_pos h2, if_pos (by decide), if_neg (by decide), if_pos (Or.inl h2)]
      exact ⟨g, rfl, ⟨hN, hS, hA, h38⟩, by decide, by decide⟩
    · rw [if_neg h2, if_pos (by decide), if_pos rfl]
      unfold f_Expressions_isFull_11
      rw [if_pos (by omega)]
      by_cases h3 : 40 ≤ S.sms.length
      · rw [if_neg (by omega), if_pos (Or.inr h3)]
        exact ⟨g, rfl, ⟨hN, hS, hA, h38⟩, by decide, by decide⟩
      · rw [if_pos (by omega), if_neg (by omega)]
        unfold f_Statements_start_8 f_Expressions_startRow_11
        have hb : ∀ (α : Type) (x : α), bd (some ((0 : Int), g)) (fun r7 g7 => if ir r7 then if r7 = 0 then some x else none else none) = some x := fun _ _ => rfl
        show OutC S ((if 0 ≤ (rI g 10 4) ∧ (rI g 10 4) < 40 then ((if 0 ≤ (rI g 10 4) ∧ (rI g 10 4) < 40 then some (gB (gA (gB g 8 (rI g 10 4) c) 12 (rI g 10 4) 0) 13 (rI g 10 4) (Int64.ofNat 0)) else none).bind fun g2 => some g2) else none).bind fun g10 => some ((0 : Int), gI g10 25 6 4)) _
        rw [if_pos (by omega), if_pos (by omega)]
        have e : (rI g 10 4).toNat = S.sms.length := by rw [s1, Int.toNat_natCast]
        refine ⟨gI (gB (gA (gB g 8 (rI g 10 4) c) 12 (rI g 10 4) 0) 13 (rI g 10 4) (Int64.ofNat 0)) 25 6 4, rfl, ⟨hN, ⟨s1, ?_⟩, hA, h38⟩, hX, ⟨rfl, fun q1 q2 => absurd q2 (by show ¬ (4 ≤ 3); decide)⟩, ⟨fun _ => ⟨?_, ?_, ?_, RowAt.nil _ _⟩, fun q => absurd q (by show ¬ (5 ≤ 4); decide), fun q => absurd q (by show ¬ (10 ≤ 4); decide)⟩, fun q => absurd q (by show ¬ (10 ≤ 4); decide), fun q => absurd q (by show ¬ (12 ≤ 4); decide)⟩
        · intro k s hk
          have hlt : k < S.sms.length := lt_get hk
          obtain ⟨a1, a2, a3, a4, a5, a6⟩ := hS.2 k s hk
          refine ⟨?_, a2, ?_, a4, ?_, a6⟩
          · show am_upd (g.2.2.2 8) (rI g 10 4).toNat c k = _
            rw [e, am_updN (by omega)]; exact a1
          · show am_upd (g.2.2.1 12) (rI g 10 4).toNat 0 k = _
            rw [e, am_updN (by omega)]; exact a3
          · show am_upd (g.2.2.2 13) (rI g 10 4).toNat (Int64.ofNat 0) k = _
            rw [e, am_updN (by omega)]; exact a5
        · show am_upd (g.2.2.2 8) (rI g 10 4).toNat c S.sms.length = _
          rw [e, updN_at]
        · show am_upd (g.2.2.1 12) (rI g 10 4).toNat 0 S.sms.length = _
          rw [e, updN_at]; rfl
        · show am_upd (g.2.2.2 13) (rI g 10 4).toNat (Int64.ofNat 0) S.sms.length = _
          rw [e, updN_at]
  · rw [if_pos (by omega), if_neg (by omega), if_pos (by omega)]
    exact ⟨g, rfl, ⟨hN, hS, hA, h38⟩, by decide, by decide⟩
