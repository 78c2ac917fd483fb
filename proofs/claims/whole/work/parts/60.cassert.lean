/-! ===== the class's steps: an assertion begins ===== -/
theorem c_startL (a : Nat) (ha : a < 40) : ∀ (k m i : Nat) (g : G2), i + k = 40 → k < m → rI g 16 8 = (a : Int) → ∃ g', l_Assertions_start_17 m 0 (i : Int) g = some g' ∧ KK (fun r => r ≠ 22) g g' ∧ ∀ p : Nat, g'.2.2.1 22 p = if 40 * a + i ≤ p ∧ p < 40 * a + 40 then 0 else g.2.2.1 22 p := by
  intro k
  induction k with
  | zero =>
    intro m i g hi hm h16
    obtain ⟨m, rfl⟩ : ∃ m', m = m' + 1 := ⟨m - 1, by omega⟩
    refine ⟨g, ?_, KK.rf, fun p => by rw [if_neg (by omega)]⟩
    rw [s_Assertions_start_17_0]
    unfold b_Assertions_start_17_0
    rw [if_pos (by omega), if_neg (by omega)]
  | succ k ih =>
    intro m i g hi hm h16
    obtain ⟨m, rfl⟩ : ∃ m', m = m' + 1 := ⟨m - 1, by omega⟩
    obtain ⟨g', a1, a2, a3⟩ := ih m (i + 1) (gA g 22 (((rI g 16 8) * 40) + i) 0) (by omega) (by omega) h16
    refine ⟨g', ?_, (KK.a (by decide) KK.rf).tr a2, fun p => ?_⟩
    · rw [s_Assertions_start_17_0]
      unfold b_Assertions_start_17_0
      rw [if_pos (by omega), if_pos (by omega), if_pos (by omega)]
      exact a1
    · rw [a3 p]
      have e : (((rI g 16 8) * 40) + (i : Int)).toNat = 40 * a + i := by rw [h16]; omega
      show (if _ then 0 else am_upd (g.2.2.1 22) (((rI g 16 8) * 40) + (i : Int)).toNat 0 p) = _
      rw [e]
      unfold am_upd
      by_cases q : p = 40 * a + i
      · rw [if_neg (by omega), if_pos q, if_pos (by omega)]
      · rw [if_neg q]
        by_cases q2 : 40 * a + (i + 1) ≤ p ∧ p < 40 * a + 40
        · rw [if_pos q2, if_pos (by omega)]
        · rw [if_neg q2, if_neg (by omega)]
/-- an assertion's own cells alone differ, and of them only its own places -/
theorem c_start {S : RSt} {g : G2} (hA : CA S g) (hi : Iv S) (ha : S.ass.length < 40) (k : Nat) : ∃ g', f_Assertions_start_17 (k : Int) g = some g' ∧ KK (fun r => r < 17 ∨ 24 < r) g g' ∧ CA S g' ∧ AsAt g' S.ass.length (k, [], 0, 0, fun _ => 0, false, true) := by
  obtain ⟨a1, a2⟩ := hA
  have e : (rI g 16 8).toNat = S.ass.length := by rw [a1, Int.toNat_natCast]
  obtain ⟨g', b1, b2, b3⟩ := c_startL S.ass.length ha 40 20000 0 (gA (gA (gA (gA (gA (gA g 17 (rI g 16 8) k) 18 (rI g 16 8) 0) 20 (rI g 16 8) 0) 21 (rI g 16 8) 0) 23 (rI g 16 8) 0) 24 (rI g 16 8) 1) (by decide) (by decide) a1
  refine ⟨g', ?_, ?_, ⟨?_, fun j x hx => ?_⟩, ?_⟩
  · unfold f_Assertions_start_17
    rw [if_pos (by omega)]
    exact b1
  · exact (KK.a (by omega) (KK.a (by omega) (KK.a (by omega) (KK.a (by omega) (KK.a (by omega) (KK.a (by omega) KK.rf)))))).tr (b2.mono (fun r hr => by omega))
  · rw [show rI g' 16 8 = rI g 16 8 from congrFun (b2 16 (by decide)).1 8]; exact a1
  · have hlt : j < S.ass.length := lt_get hx
    obtain ⟨y1, y2, y3, y4, y5, y6, y7, y8⟩ := a2 j x hx
    unfold AsAt
    rw [(b2 17 (by decide)).2.2.1, (b2 18 (by decide)).2.2.1, (b2 19 (by decide)).2.2.1, (b2 20 (by decide)).2.2.1, (b2 21 (by decide)).2.2.1, (b2 23 (by decide)).2.2.1, (b2 24 (by decide)).2.2.1]
    refine ⟨?_, ?_, y3, ?_, ?_, fun i hi40 => ?_, ?_, ?_⟩
    · show am_upd (g.2.2.1 17) (rI g 16 8).toNat _ j = _
      rw [e, am_updN (by omega)]; exact y1
    · show am_upd (g.2.2.1 18) (rI g 16 8).toNat _ j = _
      rw [e, am_updN (by omega)]; exact y2
    · show am_upd (g.2.2.1 20) (rI g 16 8).toNat _ j = _
      rw [e, am_updN (by omega)]; exact y4
    · show am_upd (g.2.2.1 21) (rI g 16 8).toNat _ j = _
      rw [e, am_updN (by omega)]; exact y5
    · rw [b3, if_neg (by omega)]; exact y6 i hi40
    · show am_upd (g.2.2.1 23) (rI g 16 8).toNat _ j = _
      rw [e, am_updN (by omega)]; exact y7
    · show am_upd (g.2.2.1 24) (rI g 16 8).toNat _ j = _
      rw [e, am_updN (by omega)]; exact y8
  · unfold AsAt
    rw [(b2 17 (by decide)).2.2.1, (b2 18 (by decide)).2.2.1, (b2 19 (by decide)).2.2.1, (b2 20 (by decide)).2.2.1, (b2 21 (by decide)).2.2.1, (b2 23 (by decide)).2.2.1, (b2 24 (by decide)).2.2.1]
    refine ⟨?_, ?_, fun u p hp => by (have hp2 : ([] : List (Nat × Nat))[u]? = some p := hp); simp at hp2, ?_, ?_, fun i hi40 => ?_, ?_, ?_⟩
    · show am_upd (g.2.2.1 17) (rI g 16 8).toNat _ S.ass.length = _
      rw [e, updN_at]
    · show am_upd (g.2.2.1 18) (rI g 16 8).toNat _ S.ass.length = _
      rw [e, updN_at]; rfl
    · show am_upd (g.2.2.1 20) (rI g 16 8).toNat _ S.ass.length = _
      rw [e, updN_at]; rfl
    · show am_upd (g.2.2.1 21) (rI g 16 8).toNat _ S.ass.length = _
      rw [e, updN_at]; rfl
    · rw [b3, if_pos (by omega)]; rfl
    · show am_upd (g.2.2.1 23) (rI g 16 8).toNat _ S.ass.length = _
      rw [e, updN_at]; rfl
    · show am_upd (g.2.2.1 24) (rI g 16 8).toNat _ S.ass.length = _
      rw [e, updN_at]; rfl
theorem c_mandV {S : RSt} {g : G2} (hS : CS S g) (hX : CX S g) (hi : Iv S) : ∀ (l : List RSm) (m i : Nat) (V : Int64), i + l.length = S.sms.length → (∀ (j : Nat) (s : RSm), l[j]? = some s → S.sms[i + j]? = some s) → l.length < m → l_Reader_mandatoryVariables_26 m 0 (S.sms.length : Int) V (i : Int) g = some (mvS S.hyps l i V, g) := by
  have m40 : S.sms.length ≤ 40 := hi.1.2.1
  intro l
  induction l with
  | nil =>
    intro m i V hl _ hm
    obtain ⟨m, rfl⟩ : ∃ m', m = m' + 1 := ⟨m - 1, by simp at hm; omega⟩
    simp only [List.length_nil] at hl
    rw [s_Reader_mandatoryVariables_26_0]
    unfold b_Reader_mandatoryVariables_26_0
    rw [if_pos (by omega), if_pos (by omega), if_neg (by omega)]
    rfl
  | cons s l ih =>
    intro m i V hl hsub hm
    simp only [List.length_cons] at hl hm
    obtain ⟨m, rfl⟩ : ∃ m', m = m' + 1 := ⟨m - 1, by omega⟩
    have hs : S.sms[i]? = some s := by have := hsub 0 s rfl; simpa using this
    have nx : ∀ V', l_Reader_mandatoryVariables_26 m 0 (S.sms.length : Int) V' ((i : Int) + 1) g = some (mvS S.hyps l (i + 1) V', g) := fun V' => ih m (i + 1) V' (by omega) (fun j s' hj => by
      have := hsub (j + 1) s' (by simpa using hj)
      rw [show i + 1 + j = i + (j + 1) by omega]; exact this) (by omega)
    rw [s_Reader_mandatoryVariables_26_0]
    unfold b_Reader_mandatoryVariables_26_0 mvS
    rw [if_pos (by omega), if_pos (by omega), if_pos (by omega), bd_some (c_isHyp hX (by omega))]
    have h9 : rA g 9 ((i : Nat) : Int) = (s.kind : Int) := (hS.2 i s hs).2.1
    have h13 : rB g 13 ((i : Nat) : Int) = s.vs := (hS.2 i s hs).2.2.2.2.1
    have k3 := (hi.2.2.1 i s hs).1
    cases hb : tb S.hyps i with
    | false =>
      rw [if_pos (by decide), if_pos (by decide), if_neg (by simp)]
      exact nx V
    | true =>
      rw [if_pos (by decide), if_neg (by decide), if_pos (by omega), h9, if_pos (by omega), h13]
      by_cases h1 : s.kind = 1
      · rw [if_pos (by omega), if_pos ⟨rfl, h1⟩]; exact nx _
      · rw [if_neg (by omega), if_neg (fun q => h1 q.2)]; exact nx _
theorem c_mandL {S : RSt} (hi : Iv S) (V : Int64) (m40 : S.sms.length < 40) : ∀ (l : List RSm) (m i : Nat) (M : Int64) (g : G2), i + l.length = S.sms.length → (∀ (j : Nat) (s : RSm), l[j]? = some s → S.sms[i + j]? = some s) → 3 * l.length < m → (∀ (k : Nat) (s : RSm), S.sms[k]? = some s → g.2.2.1 9 k = (s.kind : Int) ∧ g.2.2.2 13 k = s.vs) → CX S g → g.2.2.2 14 S.sms.length = M →
    ∃ g', l_Reader_beginAssertion_26 m 0 (S.sms.length : Int) V (i : Int) g = (f_Reader_keepPairs_26 V g').bind (fun x => some x) ∧ KK (fun r => r ≠ 14) g g' ∧ g'.2.2.2 14 S.sms.length = mdS S.hyps V l i M ∧ ∀ p : Nat, p ≠ S.sms.length → g'.2.2.2 14 p = g.2.2.2 14 p := by
  intro l
  induction l with
  | nil =>
    intro m i M g hl _ hm hk hX h14
    obtain ⟨m, rfl⟩ : ∃ m', m = m' + 1 := ⟨m - 1, by omega⟩
    simp only [List.length_nil] at hl
    refine ⟨g, ?_, KK.rf, h14, fun _ _ => rfl⟩
    rw [s_Reader_beginAssertion_26_0]
    unfold b_Reader_beginAssertion_26_0
    rw [if_pos (by omega), if_pos (by omega), if_neg (by omega)]
  | cons s l ih =>
    intro m i M g hl hsub hm hk hX h14
    simp only [List.length_cons] at hl hm
    obtain ⟨m, rfl⟩ : ∃ m', m = m' + 3 := ⟨m - 3, by omega⟩
    have hs : S.sms[i]? = some s := by have := hsub 0 s rfl; simpa using this
    obtain ⟨h9, h13⟩ := hk i s hs
    have h9' : rA g 9 ((i : Nat) : Int) = (s.kind : Int) := h9
    have h13' : rB g 13 ((i : Nat) : Int) = s.vs := h13
    have k3 := (hi.2.2.1 i s hs).1
    have hsub' : ∀ (j : Nat) (s' : RSm), l[j]? = some s' → S.sms[i + 1 + j]? = some s' := fun j s' hj => by
      have := hsub (j + 1) s' (by simpa using hj)
      rw [show i + 1 + j = i + (j + 1) by omega]; exact this
    -- not taken
    have no : ∀ m', 3 * l.length < m' → ¬ (tb S.hyps i = true ∧ (s.kind = 1 ∨ s.vs &&& V ≠ Int64.ofNat 0)) → ∃ g', l_Reader_beginAssertion_26 (m' + 1) 2 (S.sms.length : Int) V (i : Int) g = (f_Reader_keepPairs_26 V g').bind (fun x => some x) ∧ KK (fun r => r ≠ 14) g g' ∧ g'.2.2.2 14 S.sms.length = mdS S.hyps V (s :: l) i M ∧ ∀ p : Nat, p ≠ S.sms.length → g'.2.2.2 14 p = g.2.2.2 14 p := by
      intro m' hm' hc
      obtain ⟨g', a1, a2, a3, a4⟩ := ih m' (i + 1) M g (by omega) hsub' hm' hk hX h14
      refine ⟨g', ?_, a2, ?_, a4⟩
      · rw [s_Reader_beginAssertion_26_2]
        unfold b_Reader_beginAssertion_26_2
        exact a1
      · rw [a3]; conv => rhs; unfold mdS
        rw [if_neg hc]
    have yes : (tb S.hyps i = true ∧ (s.kind = 1 ∨ s.vs &&& V ≠ Int64.ofNat 0)) → ∃ g', l_Reader_beginAssertion_26 (m + 2) 1 (S.sms.length : Int) V (i : Int) g = (f_Reader_keepPairs_26 V g').bind (fun x => some x) ∧ KK (fun r => r ≠ 14) g g' ∧ g'.2.2.2 14 S.sms.length = mdS S.hyps V (s :: l) i M ∧ ∀ p : Nat, p ≠ S.sms.length → g'.2.2.2 14 p = g.2.2.2 14 p := by
      intro hc
      have k14 : KK (fun r => r ≠ 14) g (gB g 14 (S.sms.length : Int) ((rB g 14 (S.sms.length : Int)) ||| (am_shl (Int64.ofNat 1) (i : Int)))) := KK.b (by decide) KK.rf
      obtain ⟨g', a1, a2, a3, a4⟩ := ih m (i + 1) (M ||| bit i) (gB g 14 (S.sms.length : Int) ((rB g 14 (S.sms.length : Int)) ||| (am_shl (Int64.ofNat 1) (i : Int)))) (by omega) hsub' (by omega) hk (hX.kk k14 (by decide)) (by
        show am_upd (g.2.2.2 14) S.sms.length ((g.2.2.2 14 S.sms.length) ||| (am_shl (Int64.ofNat 1) (i : Int))) S.sms.length = _
        rw [updN_at, h14])
      refine ⟨g', ?_, k14.tr a2, ?_, fun p hp => ?_⟩
      · rw [show m + 2 = (m + 1) + 1 by omega, s_Reader_beginAssertion_26_1]
        unfold b_Reader_beginAssertion_26_1
        rw [if_pos (by omega), s_Reader_beginAssertion_26_2]
        unfold b_Reader_beginAssertion_26_2
        exact a1
      · rw [a3]; conv => rhs; unfold mdS
        rw [if_pos hc]
      · rw [a4 p hp]; exact am_updN hp
    rw [show m + 3 = (m + 2) + 1 by omega, s_Reader_beginAssertion_26_0]
    unfold b_Reader_beginAssertion_26_0
    rw [if_pos (by omega), if_pos (by omega), if_pos (by omega), if_pos (by omega), h13', h9']
    have hh := c_isHyp hX (show i < 64 by omega)
    cases hb : tb S.hyps i with
    | false =>
      rw [hb] at hh
      have g2 := no (m + 1) (by omega) (fun q => by rw [hb] at q; exact absurd q.1 (by decide))
      by_cases hv : s.vs &&& V = Int64.ofNat 0
      · rw [if_pos hv, if_pos (by omega)]
        by_cases h1 : s.kind = 1
        · rw [if_pos (by omega), bd_some hh, if_pos (by decide), if_pos (by decide)]; exact g2
        · rw [if_neg (by omega), bd_some hh, if_pos (by decide), if_pos (by decide)]; exact g2
      · rw [if_neg hv, if_pos (by omega)]
        by_cases h1 : s.kind = 1
        · rw [if_pos (by omega), bd_some hh, if_pos (by decide), if_pos (by decide)]; exact g2
        · rw [if_neg (by omega), bd_some hh, if_pos (by decide), if_pos (by decide)]; exact g2
    | true =>
      rw [hb] at hh
      by_cases hv : s.vs &&& V = Int64.ofNat 0
      · rw [if_pos hv, if_pos (by omega)]
        by_cases h1 : s.kind = 1
        · rw [if_pos (by omega), bd_some hh, if_pos (by decide), if_neg (by decide)]
          exact yes ⟨hb, Or.inl h1⟩
        · rw [if_neg (by omega), bd_some hh, if_pos (by decide), if_neg (by decide)]
          exact no (m + 1) (by omega) (fun q => q.2.elim h1 (fun z => z hv))
      · rw [if_neg hv, if_pos (by omega)]
        by_cases h1 : s.kind = 1
        · rw [if_pos (by omega), bd_some hh, if_pos (by decide), if_neg (by decide)]
          exact yes ⟨hb, Or.inl h1⟩
        · rw [if_neg (by omega), bd_some hh, if_pos (by decide), if_neg (by decide)]
          exact yes ⟨hb, Or.inr hv⟩
