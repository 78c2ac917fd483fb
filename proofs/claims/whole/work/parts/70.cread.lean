/-! ===== the class: a word with letters ===== -/
theorem CK.of1 {S S' : RSt} {g : G2} (h : CK S g) (e : S'.1 = S.1) : CK S' g := by
  obtain ⟨K, R⟩ := S
  obtain ⟨K', R'⟩ := S'
  have e1 : K' = K := e
  subst e1
  exact h
theorem put_1 {S S' : RSt} {e : List Nat × Int64} (h : putS S e = .ok S') : S'.1 = S.1 := by
  unfold putS at h
  by_cases q : 16 ≤ S.stk.length
  · rw [if_pos q] at h; cases h
  · rw [if_neg q] at h; injection h with h; rw [← h]
theorem use_1 {S S' : RSt} {k b : Nat} {s : RSm} {σ : Nat → Nat} (h : useS S k s b σ = .ok S') : S'.1 = S.1 := by
  unfold useS at h
  split at h
  · by_cases q : 24 < (repS S σ s.row).1.length
    · rw [if_pos q] at h; cases h
    · rw [if_neg q] at h
      have e := put_1 h
      exact e
  · cases h
theorem step_1 {S S' : RSt} {k : Nat} (h : stepWithS S k = .ok S') : S'.1 = S.1 := by
  unfold stepWithS at h
  by_cases hg : S.gap = true
  · rw [if_pos hg] at h; injection h with h; rw [← h]
  · rw [if_neg hg] at h
    cases hk : S.sms[k]? with
    | none => rw [hk] at h; cases h
    | some s =>
      rw [hk] at h
      have h2 : (if s.kind ≤ 1 then putS S (s.row, s.vs) else if S.stk.length < (hsOf k s.mand).length then .error (-9) else match bindS S (hsOf k s.mand) (S.stk.length - (hsOf k s.mand).length) (fun _ => 0) with | none => .error (-10) | some σ => useS S k s (S.stk.length - (hsOf k s.mand).length) σ) = Except.ok S' := h
      by_cases hk1 : s.kind ≤ 1
      · rw [if_pos hk1] at h2; exact put_1 h2
      · rw [if_neg hk1] at h2
        by_cases hl : S.stk.length < (hsOf k s.mand).length
        · rw [if_pos hl] at h2; cases h2
        · rw [if_neg hl] at h2
          cases hb : bindS S (hsOf k s.mand) (S.stk.length - (hsOf k s.mand).length) (fun _ => 0) with
          | none => rw [hb] at h2; cases h2
          | some σ => rw [hb] at h2; exact use_1 h2
theorem num_1 {S S' : RSt} (h : stepNumS S = .ok S') : S'.1 = S.1 := by
  unfold stepNumS at h
  split at h
  · exact step_1 h
  · split at h
    · cases h
    · split at h
      · injection h with h; rw [← h]
      · split at h
        · exact put_1 h
        · cases h
theorem tl_1 {S S' : RSt} {c : Int} (h : takeLetterS S c = .ok S') : S'.1 = S.1 := by
  unfold takeLetterS at h
  split at h
  · split at h
    · cases h
    · injection h with h; rw [← h]; rfl
  · split at h
    · split at h
      · cases h
      · split at h
        · cases h
        · injection h with h; rw [← h]
    · split at h
      · cases h
      · injection h with h; rw [← h]
/-- one letter: the class's two calls -/
theorem c_lettersL {g0 : G2} (l : List Int) (b : Nat) (hb3 : b + l.length ≤ 1600) (h3 : rI g0 1 4 = ((b + l.length : Nat) : Int)) (h2 : ∀ i c, l[i]? = some c → g0.2.2.1 2 (b + i) = c) (hl : ∀ c ∈ l, c = 63 ∨ (65 ≤ c ∧ c ≤ 90)) : ∀ (k m i : Nat) (S : RSt) (g : G2), i + k = l.length → 2 * k + 6 < m → CRep S g → Iv S → Bh S → S.stage = 13 → KK cT g0 g → OutC S (l_Letters_takeLetters_44_2 m 3 0 ((b + i : Nat) : Int) g) (lettersS S (l.drop i)) := by
  intro k
  induction k with
  | zero =>
    intro m i S g hi hm h hv hb hs hk
    obtain ⟨m, rfl⟩ : ∃ m', m = m' + 2 := ⟨m - 2, by omega⟩
    rw [List.drop_eq_nil_of_le (by omega)]
    refine ⟨g, ?_, h⟩
    have e4 : rI g 1 4 = ((b + l.length : Nat) : Int) := by rw [show rI g 1 4 = rI g0 1 4 from congrFun (hk 1 (show 1 < 3 by decide)).1 4]; exact h3
    rw [s_Letters_takeLetters_44_2_3]
    unfold b_Letters_takeLetters_44_2_3
    rw [if_pos (by omega), if_pos (by omega), if_neg (by omega), s_Letters_takeLetters_44_2_5]
    rfl
  | succ k ih =>
    intro m i S g hi hm h hv hb hs hk
    obtain ⟨m, rfl⟩ : ∃ m', m = m' + 5 := ⟨m - 5, by omega⟩
    obtain ⟨c, hc⟩ := ex_get (l := l) (k := i) (by omega)
    have hcm := hl c (List.mem_of_getElem? hc)
    rw [drop_eq hc]
    have e4 : rI g 1 4 = ((b + l.length : Nat) : Int) := by rw [show rI g 1 4 = rI g0 1 4 from congrFun (hk 1 (show 1 < 3 by decide)).1 4]; exact h3
    have e2 : rA g 2 ((b + i : Nat) : Int) = c := by show g.2.2.1 2 (b + i) = c; rw [(hk 2 (show 2 < 3 by decide)).2.2.1]; exact h2 i c hc
    have t1 : (((b + i : Nat) : Int) + 1) = ((b + (i + 1) : Nat) : Int) := by omega
    -- a fault ends the loop
    have bad : ∀ (f : Int) (g' : G2), -12 < f → f < 0 → l_Letters_takeLetters_44_2 (m + 4) 4 f ((b + i : Nat) : Int) g' = some (f, g') ∨ ¬ (KK cT g0 g') := by
      intro f g' hf1 hf2
      rcases Classical.em (KK cT g0 g') with hk' | hk'
      · left
        have e4' : rI g' 1 4 = ((b + l.length : Nat) : Int) := by rw [show rI g' 1 4 = rI g0 1 4 from congrFun (hk' 1 (show 1 < 3 by decide)).1 4]; exact h3
        rw [s_Letters_takeLetters_44_2_4]
        unfold b_Letters_takeLetters_44_2_4
        rw [s_Letters_takeLetters_44_2_3]
        unfold b_Letters_takeLetters_44_2_3
        rw [if_pos (by omega), if_pos (by omega)]
        by_cases q : ((b + i : Nat) : Int) + 1 < rI g' 1 4
        · rw [if_pos q, if_pos (by omega), if_neg (by omega), s_Letters_takeLetters_44_2_5]
          rfl
        · rw [if_neg q, s_Letters_takeLetters_44_2_5]
          rfl
      · exact Or.inr hk'
    rw [show m + 5 = (m + 4) + 1 by omega, s_Letters_takeLetters_44_2_3]
    unfold b_Letters_takeLetters_44_2_3
    rw [if_pos (by omega), if_pos (by omega), if_pos (by omega), if_pos (by decide), if_pos rfl, if_pos (by omega), e2]
    have hL := c_takeLetter h hv hb hs c hcm
    have hK := kt_f_Letters_takeLetter_44 c g
    show OutC S _ (match letterS S c with | .error f => .error f | .ok S1 => lettersS S1 (l.drop (i + 1)))
    unfold letterS
    cases ht : takeLetterS S c with
    | error f =>
      rw [ht] at hL
      obtain ⟨g', a1, a2, a3, a4⟩ := hL
      have hk' : KK cT g0 g' := hk.tr (hK f g' a1)
      rw [bd_some a1, if_pos (by omega), if_neg (by omega)]
      refine ⟨g', ?_, a2, a3, a4⟩
      exact (bad f g' a3 a4).resolve_right (fun z => z hk')
    | ok S1 =>
      rw [ht] at hL
      obtain ⟨g', a1, a2⟩ := hL
      have hk' : KK cT g0 g' := hk.tr (hK 0 g' a1)
      obtain ⟨y1, y2, y3⟩ := iv_takeLetter hv hb hs hcm ht
      have l9 := (a2.2.2.2.2.2 (by omega)).2.2.2.2.2.2.2.2
      have e1 := tl_1 ht
      rw [bd_some a1, if_pos (by decide), if_pos rfl, l9, if_pos (b01_ir _)]
      show OutC S _ (match (if S1.beh = true then stepNumS S1 else .ok S1) with | .error f => .error f | .ok S1 => lettersS S1 (l.drop (i + 1)))
      cases hbe : S1.beh with
      | false =>
        rw [if_pos (by decide), if_neg (by decide)]
        have hfin := ih (m + 3) (i + 1) S1 g' (by omega) (by omega) a2 y1 (fun _ w => by rw [hbe] at w; cases w) y2 hk'
        rw [s_Letters_takeLetters_44_2_4]
        unfold b_Letters_takeLetters_44_2_4
        rw [t1]
        show OutC S _ (lettersS S1 (l.drop (i + 1)))
        revert hfin
        cases lettersS S1 (l.drop (i + 1)) with
        | error f => rintro ⟨g'', z1, z2, z3⟩; exact ⟨g'', z1, z2.of1 e1.symm, z3⟩
        | ok S2 => exact fun z => z
      | true =>
        rw [if_neg (by decide), if_pos rfl]
        have hN := c_stepNum a2 y1 y2 hbe (y3 hbe)
        have hKN := kt_f_Letters_stepWithNumber_44 g'
        cases hsn : stepNumS S1 with
        | error f =>
          rw [hsn] at hN
          obtain ⟨g'', b1, b2, b3, b4⟩ := hN
          rw [bd_some b1]
          refine ⟨g'', ?_, b2.of1 e1.symm, b3, b4⟩
          exact (bad f g'' b3 b4).resolve_right (fun z => z (hk'.tr (hKN f g'' b1)))
        | ok S2 =>
          rw [hsn] at hN
          obtain ⟨g'', b1, b2⟩ := hN
          obtain ⟨z1, z2, z3⟩ := iv_stepNum y1 y2 hsn
          have e2' := num_1 hsn
          rw [bd_some b1]
          have hfin := ih (m + 3) (i + 1) S2 g'' (by omega) (by omega) b2 z1 (fun _ _ w => z3 w) z2 (hk'.tr (hKN 0 g'' b1))
          rw [s_Letters_takeLetters_44_2_4]
          unfold b_Letters_takeLetters_44_2_4
          rw [t1]
          show OutC S _ (lettersS S2 (l.drop (i + 1)))
          revert hfin
          cases lettersS S2 (l.drop (i + 1)) with
          | error f => rintro ⟨g3, w1, w2, w3⟩; exact ⟨g3, w1, w2.of1 (e2'.trans e1).symm, w3⟩
          | ok S3 => exact fun z => z
theorem c_chkL {g : G2} (l : List Int) (b : Nat) (hb3 : b + l.length ≤ 1600) (h3 : rI g 1 3 = (b : Int)) (h4 : rI g 1 4 = ((b + l.length : Nat) : Int)) (h2 : ∀ i c, l[i]? = some c → g.2.2.1 2 (b + i) = c) (hl : ∀ c ∈ l, 33 ≤ c ∧ c ≤ 126) : ∀ (k m i : Nat), i + k = l.length → 2 * k + 1 < m → (badLetters (l.drop i) → l_Letters_takeLetters_44_2 m 0 ((b + i : Nat) : Int) 0 g = some (-3, g)) ∧ (¬ badLetters (l.drop i) → ∃ m', m ≤ m' + 2 * k + 1 ∧ l_Letters_takeLetters_44_2 m 0 ((b + i : Nat) : Int) 0 g = l_Letters_takeLetters_44_2 m' 3 0 (b : Int) g) := by
  intro k
  induction k with
  | zero =>
    intro m i hi hm
    obtain ⟨m, rfl⟩ : ∃ m', m = m' + 1 := ⟨m - 1, by omega⟩
    rw [List.drop_eq_nil_of_le (by omega)]
    refine ⟨fun hh => (by obtain ⟨c, hc, _⟩ := hh; cases hc), fun _ => ⟨m, by omega, ?_⟩⟩
    rw [s_Letters_takeLetters_44_2_0]
    unfold b_Letters_takeLetters_44_2_0
    rw [if_pos (by omega), if_pos (by omega), if_neg (by omega), h3]
  | succ k ih =>
    intro m i hi hm
    obtain ⟨m, rfl⟩ : ∃ m', m = m' + 2 := ⟨m - 2, by omega⟩
    obtain ⟨c, hc⟩ := ex_get (l := l) (k := i) (by omega)
    have hcm := hl c (List.mem_of_getElem? hc)
    rw [drop_eq hc]
    have e2 : rA g 2 ((b + i : Nat) : Int) = c := h2 i c hc
    have t1 : (((b + i : Nat) : Int) + 1) = ((b + (i + 1) : Nat) : Int) := by omega
    obtain ⟨y1, y2⟩ := ih m (i + 1) (by omega) (by omega)
    have go : l_Letters_takeLetters_44_2 (m + 1) 2 ((b + i : Nat) : Int) 0 g = l_Letters_takeLetters_44_2 m 0 ((b + (i + 1) : Nat) : Int) 0 g := by
      rw [s_Letters_takeLetters_44_2_2]
      unfold b_Letters_takeLetters_44_2_2
      rw [t1]
    have stop : l_Letters_takeLetters_44_2 (m + 1) 1 0 0 g = some (-3, g) := by
      rw [s_Letters_takeLetters_44_2_1]
      rfl
    rw [show m + 2 = (m + 1) + 1 by omega, s_Letters_takeLetters_44_2_0]
    unfold b_Letters_takeLetters_44_2_0
    rw [if_pos (by omega), if_pos (by omega), if_pos (by omega), if_pos (by omega), e2, if_pos (by omega)]
    have hbad : badLetters (c :: l.drop (i + 1)) ↔ (c ≠ 63 ∧ (c < 65 ∨ 90 < c)) ∨ badLetters (l.drop (i + 1)) := by
      unfold badLetters
      constructor
      · rintro ⟨d, d1, d2⟩
        rcases List.mem_cons.mp d1 with d1 | d1
        · left; rw [← d1]; exact d2
        · exact Or.inr ⟨d, d1, d2⟩
      · rintro (d | ⟨d, d1, d2⟩)
        · exact ⟨c, by simp, d⟩
        · exact ⟨d, by simp [d1], d2⟩
    have good : ¬ (c ≠ 63 ∧ (c < 65 ∨ 90 < c)) → (badLetters (c :: l.drop (i + 1)) → l_Letters_takeLetters_44_2 (m + 1) 2 ((b + i : Nat) : Int) 0 g = some (-3, g)) ∧ (¬ badLetters (c :: l.drop (i + 1)) → ∃ m', (m + 1) + 1 ≤ m' + 2 * (k + 1) + 1 ∧ l_Letters_takeLetters_44_2 (m + 1) 2 ((b + i : Nat) : Int) 0 g = l_Letters_takeLetters_44_2 m' 3 0 (b : Int) g) := by
      intro hg
      rw [hbad, go]
      refine ⟨fun z => y1 (z.resolve_left hg), fun z => ?_⟩
      obtain ⟨m', w1, w2⟩ := y2 (fun w => z (Or.inr w))
      exact ⟨m', by omega, w2⟩
    by_cases h63 : c = 63
    · rw [if_pos h63]
      exact good (fun z => z.1 h63)
    · rw [if_neg h63]
      by_cases h65 : c < 65
      · rw [if_pos h65, stop]
        exact ⟨fun _ => rfl, fun z => absurd (hbad.mpr (Or.inl ⟨h63, Or.inl h65⟩)) z⟩
      · rw [if_neg h65]
        by_cases h90 : 90 < c
        · rw [if_pos h90, stop]
          exact ⟨fun _ => rfl, fun z => absurd (hbad.mpr (Or.inl ⟨h63, Or.inr h90⟩)) z⟩
        · rw [if_neg h90]
          exact good (fun z => by omega)
theorem c_takeLetters {S : RSt} {g : G2} (h : CRep S g) (hi : Iv S) (hb : Bh S) (hs : S.stage = 13) (l : List Int) (hw : WordC g l) (ho : WdOk l) : OutC S (f_Letters_takeLetters_44_2 g) (takeLettersS S l) := by
  obtain ⟨b, w1, w2, w3, w4, w5, w6⟩ := hw
  obtain ⟨y1, y2⟩ := c_chkL l b w3 w1 w2 w4 ho.2 l.length 20000 0 (by omega) (by omega)
  rw [List.drop_zero] at y1 y2
  have ef : f_Letters_takeLetters_44_2 g = l_Letters_takeLetters_44_2 20000 0 ((b + 0 : Nat) : Int) 0 g := by
    show l_Letters_takeLetters_44_2 20000 0 (rI g 1 3) 0 g = _
    rw [w1]
    rfl
  rw [ef]
  unfold takeLettersS
  rcases Classical.em (badLetters l) with q | q
  · rw [if_pos q, y1 q]
    exact ⟨g, rfl, h.1, by decide, by decide⟩
  · rw [if_neg q]
    obtain ⟨m', z1, z2⟩ := y2 q
    rw [z2]
    have := c_lettersL (g0 := g) l b w3 w2 w4 (good_letters q) l.length m' 0 S g (by omega) (by omega) h hi hb hs KK.rf
    rw [List.drop_zero] at this
    exact this
