/-! ===== what holds of every state stays: words ===== -/
theorem iv_takeStep {S S' : RSt} {c : Int64} (h : Iv S) (hs : 10 ≤ S.stage) (h' : takeStepS S c = .ok S') : Iv S' ∧ S'.stage = S.stage := by
  unfold takeStepS at h'
  by_cases q : c = Int64.ofNat 63
  · rw [if_pos q] at h'
    injection h' with h'
    subst h'
    exact ⟨iv_gap h hs, rfl⟩
  · rw [if_neg q] at h'
    cases hu : usableS S c with
    | none => rw [hu] at h'; cases h'
    | some k =>
      rw [hu] at h'
      obtain ⟨y1, y2, _⟩ := iv_stepWith h hs h'
      exact ⟨y1, y2⟩
theorem iv_beginSteps {S S' : RSt} {c : Int64} (h : Iv S) (hs : S.stage = 10) (h' : beginStepsS S c = .ok S') : Iv S' ∧ Bh S' := by
  unfold beginStepsS at h'
  by_cases q : c = Int64.ofNat 40
  · rw [if_neg (fun z => z q)] at h'
    injection h' with h'
    have hx := h
    obtain ⟨⟨o1, o2, o3, o4, o5, o6⟩, i1, i2, i3, i4, -, i6, i7, i8, i9⟩ := h
    have k7 := i7 (by omega)
    subst h'
    refine ⟨iv_proof hx (by omega) rfl rfl rfl (by show 10 ≤ 12; decide) (by show 12 ≤ 13; decide) (fun _ => k7) (fun _ => ⟨rfl, ?_, Nat.zero_le _, fun k hk => (mem_hsOf.mp hk).1, fun e he => ?_, Nat.zero_le _, Nat.zero_le _, fun _ => rfl, ?_, fun _ => rfl⟩), fun _ w => ?_⟩
    · exact List.take_length
    · have he2 : e ∈ ([] : List (List Nat × Int64)) := he
      cases he2
    · intro z
      rcases z with z | z
      · have w2 : false = true := z
        cases w2
      · have w2 : false = true := z
        cases w2
    · have w2 : false = true := w
      cases w2
  · rw [if_pos q] at h'
    obtain ⟨y1, y2⟩ := iv_takeStep (iv_stage h (by omega) 11 (by decide) (by decide) (fun w => by omega)) (show 10 ≤ 11 by decide) h'
    have y3 : S'.stage = 11 := y2
    exact ⟨y1, fun w => by omega⟩
theorem iv_takeListed {S S' : RSt} {c : Int64} (h : Iv S) (hb : Bh S) (hs : S.stage = 12) (h' : takeListedS S c = .ok S') : Iv S' ∧ Bh S' := by
  unfold takeListedS at h'
  by_cases q : c = Int64.ofNat 41
  · rw [if_pos q] at h'
    injection h' with h'
    subst h'
    exact ⟨iv_stage h (by omega) 13 (by decide) (by decide) (fun w => by omega), fun _ => hb (by omega)⟩
  · rw [if_neg q] at h'
    cases hu : usableS S c with
    | none => rw [hu] at h'; cases h'
    | some k =>
      rw [hu] at h'
      have h2 : (if tb S.cmand k = true then .error (-8) else if 20 ≤ S.lstd then .error (-7) else .ok ((S.uRefs (S.refs ++ [k])).uLstd (S.lstd + 1))) = (Except.ok S' : RS) := h'
      split at h2
      · cases h2
      · split at h2
        · cases h2
        · next q20 =>
          injection h2 with h2
          have hx := h
          obtain ⟨⟨o1, o2, o3, o4, o5, o6⟩, i1, i2, i3, i4, -, i6, i7, i8, i9⟩ := h
          have k7 := i7 (by omega)
          obtain ⟨l1, l2, l3, l4, l5, l6, l7, l8, l9, l10⟩ := i8 (by omega)
          have hk := usable_lt hx hu
          subst h2
          refine ⟨iv_proof hx (by omega) rfl rfl rfl (by show 10 ≤ S.stage; omega) o6 (fun _ => k7) (fun _ => ⟨?_, ?_, ?_, fun j hj => ?_, l5, l6, l7, l8, l9, l10⟩), fun _ => hb (by omega)⟩
          · show (S.refs ++ [k]).length = _ + (S.lstd + 1)
            rw [List.length_append, l1]; rfl
          · show (S.refs ++ [k]).take (hsOf S.sms.length S.cmand).length = hsOf S.sms.length S.cmand
            rw [List.take_append_of_le_length (by omega)]; exact l2
          · show S.lstd + 1 ≤ 20
            omega
          · have hj2 : j ∈ S.refs ++ [k] := hj
            rw [List.mem_append, List.mem_singleton] at hj2
            rcases hj2 with hj2 | hj2
            · exact l4 j hj2
            · rw [hj2]; exact hk
theorem iv_takeLetter {S S' : RSt} {c : Int} (h : Iv S) (hb : Bh S) (hs : S.stage = 13) (hc : c = 63 ∨ (65 ≤ c ∧ c ≤ 90)) (h' : takeLetterS S c = .ok S') : Iv S' ∧ S'.stage = 13 ∧ (S'.beh = true → 1 ≤ S'.num) := by
  have hx := h
  obtain ⟨⟨o1, o2, o3, o4, o5, o6⟩, i1, i2, i3, i4, -, i6, i7, i8, i9⟩ := h
  have k7 := i7 (by omega)
  have k6 := k7.2.2.2.2.2.1
  obtain ⟨l1, l2, l3, l4, l5, l6, l7, l8, l9, l10⟩ := i8 (by omega)
  unfold takeLetterS at h'
  by_cases h63 : c = 63
  · rw [if_pos h63] at h'
    split at h'
    · cases h'
    · injection h' with h'
      have hbeh : Iv (S.uBeh false) := iv_proof hx (by omega) rfl rfl rfl (by show 10 ≤ S.stage; omega) o6 (fun _ => k7) (fun _ => ⟨l1, l2, l3, l4, l5, l6, l7, l8, fun z => l9 (z.elim Or.inl (fun w => by have w2 : false = true := w; cases w2)), fun _ => rfl⟩)
      subst h'
      exact ⟨iv_gap hbeh (by show 10 ≤ S.stage; omega), hs, fun w => by have w2 : false = true := w; cases w2⟩
  · rw [if_neg h63] at h'
    by_cases h90 : c = 90
    · rw [if_pos h90] at h'
      split at h'
      · cases h'
      · next hbe =>
        split at h'
        · cases h'
        · next h16 =>
          injection h' with h'
          have hbe' : S.beh = true := by cases hq : S.beh with | true => rfl | false => exact absurd hq hbe
          have hin : S.ins = false := by
            cases hq : S.ins with
            | false => rfl
            | true => have := l10 hq; rw [hbe'] at this; cases this
          subst h'
          refine ⟨iv_proof hx (by omega) rfl rfl rfl (by show 10 ≤ S.stage; omega) o6 (fun _ => k7) (fun _ => ⟨l1, l2, l3, l4, ?_, ?_, ?_, ?_, fun z => l9 (z.elim Or.inl (fun w => by have w2 : false = true := w; cases w2)), fun _ => rfl⟩), hs, fun w => by have w2 : false = true := w; cases w2⟩
          · intro e he
            have he2 : e ∈ (if S.gap = true then S.tags else S.tags ++ (S.stk[S.stk.length - 1]?).toList) := he
            split at he2
            · exact l5 e he2
            · rw [List.mem_append] at he2
              rcases he2 with he2 | he2
              · exact l5 e he2
              · cases hq : S.stk[S.stk.length - 1]? with
                | none => rw [hq] at he2; cases he2
                | some f =>
                  rw [hq] at he2
                  have he3 : e ∈ [f] := he2
                  rw [List.mem_singleton] at he3
                  rw [he3]; exact k6 f (List.mem_of_getElem? hq)
          · show S.tc + 1 ≤ 16
            omega
          · show (if S.gap = true then S.tags else S.tags ++ (S.stk[S.stk.length - 1]?).toList).length ≤ S.tc + 1
            split
            · omega
            · rw [List.length_append]
              have : (S.stk[S.stk.length - 1]?).toList.length ≤ 1 := by cases S.stk[S.stk.length - 1]? <;> simp
              omega
          · intro hg
            have hg2 : S.gap = false := hg
            have hpos := hb (by omega) hbe' hg2
            obtain ⟨f, hf⟩ := ex_get (l := S.stk) (k := S.stk.length - 1) (by omega)
            show (if S.gap = true then S.tags else S.tags ++ (S.stk[S.stk.length - 1]?).toList).length = S.tc + 1
            rw [hg2, if_neg (by decide), hf, List.length_append, l8 hg2]; rfl
    · rw [if_neg h90] at h'
      split at h'
      · cases h'
      · next h99 =>
        injection h' with h'
        have hnum : 1 ≤ numS S c ∧ numS S c ≤ 9999 := by
          refine ⟨?_, by omega⟩
          unfold numS
          split
          · split <;> omega
          · split <;> omega
        subst h'
        refine ⟨iv_proof hx (by omega) rfl rfl rfl (by show 10 ≤ S.stage; omega) o6 (fun _ => k7) (fun _ => ⟨l1, l2, l3, l4, l5, l6, l7, l8, fun _ => ?_, fun w => ?_⟩), hs, fun _ => ?_⟩
        · show (numS S c).toNat ≤ 9999
          omega
        · have w2 : decide (85 ≤ c) = true := w
          show (!decide (85 ≤ c)) = false
          rw [w2]; rfl
        · show 1 ≤ (numS S c).toNat
          omega
theorem iv_stepNum {S S' : RSt} (h : Iv S) (hs : S.stage = 13) (h' : stepNumS S = .ok S') : Iv S' ∧ S'.stage = 13 ∧ (S'.gap = false → 0 < S'.stk.length) := by
  unfold stepNumS at h'
  split at h'
  · next k hk =>
    obtain ⟨y1, y2, y3⟩ := iv_stepWith h (by omega) h'
    exact ⟨y1, by omega, y3⟩
  · split at h'
    · cases h'
    · split at h'
      · next hg =>
        injection h' with h'
        subst h'
        exact ⟨h, hs, fun w => by rw [hg] at w; cases w⟩
      · next hg =>
        split at h'
        · next e he =>
          have l5 := (h.2.2.2.2.2.2.2.2.1 (by omega)).2.2.2.2.1
          obtain ⟨y1, y2, y3, y4⟩ := iv_put h (by omega) (by cases hq : S.gap with | false => rfl | true => exact absurd hq hg) (l5 e (List.mem_of_getElem? he)) h'
          exact ⟨y1, by omega, fun _ => y3⟩
        · cases h'
theorem iv_letter {S S' : RSt} {c : Int} (h : Iv S) (hb : Bh S) (hs : S.stage = 13) (hc : c = 63 ∨ (65 ≤ c ∧ c ≤ 90)) (h' : letterS S c = .ok S') : Iv S' ∧ Bh S' ∧ S'.stage = 13 := by
  unfold letterS at h'
  cases ht : takeLetterS S c with
  | error f => rw [ht] at h'; cases h'
  | ok S1 =>
    rw [ht] at h'
    obtain ⟨y1, y2, y3⟩ := iv_takeLetter h hb hs hc ht
    have h2 : (if S1.beh = true then stepNumS S1 else .ok S1) = Except.ok S' := h'
    split at h2
    · obtain ⟨z1, z2, z3⟩ := iv_stepNum y1 y2 h2
      exact ⟨z1, fun _ _ w => z3 w, z2⟩
    · next hn =>
      injection h2 with h2
      subst h2
      exact ⟨y1, fun _ w => absurd w hn, y2⟩
theorem iv_letters : ∀ (l : List Int) (S S' : RSt), Iv S → Bh S → S.stage = 13 → (∀ c ∈ l, c = 63 ∨ (65 ≤ c ∧ c ≤ 90)) → lettersS S l = .ok S' → Iv S' ∧ Bh S' ∧ S'.stage = 13 := by
  intro l
  induction l with
  | nil => intro S S' h hb hs _ h'; injection h' with h'; subst h'; exact ⟨h, hb, hs⟩
  | cons c l ih =>
    intro S S' h hb hs hc h'
    unfold lettersS at h'
    cases ht : letterS S c with
    | error f => rw [ht] at h'; cases h'
    | ok S1 =>
      rw [ht] at h'
      obtain ⟨y1, y2, y3⟩ := iv_letter h hb hs (hc c (by simp)) ht
      exact ih S1 S' y1 y2 y3 (fun d hd => hc d (by simp [hd])) h'
theorem good_letters {l : List Int} (h : ¬ badLetters l) : ∀ c ∈ l, c = 63 ∨ (65 ≤ c ∧ c ≤ 90) := by
  intro c hc
  rcases Classical.em (c = 63 ∨ (65 ≤ c ∧ c ≤ 90)) with q | q
  · exact q
  · exact absurd ⟨c, hc, by omega, by omega⟩ h
theorem iv_endProof {S S' : RSt} (h : Iv S) (hs : 10 ≤ S.stage) (h' : endProofS S = .ok S') : Iv S' ∧ S'.stage = 0 := by
  obtain ⟨k1, k2, k3, k4, _⟩ := h.2.2.2.2.2.2.2.1 hs
  have hd : declareS S = .ok S' → Iv S' ∧ S'.stage = 0 := fun z => iv_declare h (Or.inr (by omega)) S.cmand S.cmand S.ca (fun _ => ⟨k3, k4, k2⟩) z
  unfold endProofS at h'
  split at h'
  · cases h'
  · split at h'
    · exact hd h'
    · split at h'
      · cases h'
      · split at h'
        · exact hd h'
        · cases h'
theorem bh0 {S : RSt} (h : S.stage < 12) : Bh S := fun w => by omega
theorem iv_name {S S' : RSt} {c : Int64} {l : List Int} (h : Iv S) (hb : Bh S) (h' : nameS S c l = .ok S') : Iv S' ∧ Bh S' := by
  have o6 : S.stage ≤ 13 := h.1.2.2.2.2.2
  unfold nameS at h'
  by_cases q : S.stage = 0
  · rw [if_pos q] at h'
    obtain ⟨y1, y2⟩ := iv_takeLabel h q h'
    exact ⟨y1, bh0 (by omega)⟩
  rw [if_neg q] at h'
  by_cases q : S.stage = 1
  · rw [if_pos q] at h'
    obtain ⟨y1, y2⟩ := iv_declareConstant h q h'
    exact ⟨y1, bh0 (by omega)⟩
  rw [if_neg q] at h'
  by_cases q : S.stage = 2
  · rw [if_pos q] at h'
    obtain ⟨y1, y2⟩ := iv_declareVariable h q h'
    exact ⟨y1, bh0 (by omega)⟩
  rw [if_neg q] at h'
  by_cases q : S.stage = 3
  · rw [if_pos q] at h'
    obtain ⟨y1, y2⟩ := iv_takeApart h q h'
    exact ⟨y1, bh0 (by omega)⟩
  rw [if_neg q] at h'
  have ty : ∀ (hs : S.stage = 5 ∨ S.stage = 8), takeTypeS S (fnd S c) = .ok S' → Iv S' ∧ Bh S' := by
    intro hs hh
    have y1 := iv_takeType h hs hh
    refine ⟨y1, ?_⟩
    unfold takeTypeS at hh
    by_cases z : mean S (fnd S c) ≠ 0
    · rw [if_pos z] at hh
      by_cases z2 : mean S (fnd S c) = -1
      · rw [if_pos z2] at hh; cases hh
      · rw [if_neg z2] at hh; cases hh
    · rw [if_neg z] at hh
      injection hh with hh
      rw [← hh]
      exact bh0 (by show (if S.stage = 5 then 6 else 9) < 12; split <;> decide)
  by_cases q : S.stage = 5
  · rw [if_pos q] at h'
    exact ty (Or.inl q) h'
  rw [if_neg q] at h'
  by_cases q : S.stage = 6
  · rw [if_pos q] at h'
    have y1 := iv_takeFloating h q h'
    refine ⟨y1, ?_⟩
    unfold takeFloatingS at h'
    by_cases z : mean S (fnd S c) ≠ 1
    · rw [if_pos z] at h'
      by_cases z2 : mean S (fnd S c) = -1
      · rw [if_pos z2] at h'; cases h'
      · rw [if_neg z2] at h'; cases h'
    · rw [if_neg z] at h'
      by_cases z2 : tb S.typed (fnd S c).toNat = true
      · rw [if_pos z2] at h'; cases h'
      · rw [if_neg z2] at h'
        injection h' with h'
        rw [← h']
        exact bh0 (by show 7 < 12; decide)
  rw [if_neg q] at h'
  by_cases q : S.stage = 8
  · rw [if_pos q] at h'
    exact ty (Or.inr q) h'
  rw [if_neg q] at h'
  by_cases q : S.stage = 9
  · rw [if_pos q] at h'
    have y1 := iv_takeSymbol h q h'
    refine ⟨y1, ?_⟩
    unfold takeSymbolS at h'
    by_cases z : mean S (fnd S c) = -1 ∨ (mean S (fnd S c) = 1 ∧ tb S.typed (fnd S c).toNat = false)
    · rw [if_pos z] at h'; cases h'
    · rw [if_neg z] at h'
      by_cases z2 : 24 < S.crow.length + 1
      · rw [if_pos z2] at h'; cases h'
      · rw [if_neg z2] at h'
        injection h' with h'
        rw [← h']
        exact bh0 (by show S.stage < 12; omega)
  rw [if_neg q] at h'
  by_cases q : S.stage = 10
  · rw [if_pos q] at h'
    exact iv_beginSteps h q h'
  rw [if_neg q] at h'
  by_cases q : S.stage = 11
  · rw [if_pos q] at h'
    obtain ⟨y1, y2⟩ := iv_takeStep h (by omega) h'
    exact ⟨y1, bh0 (by omega)⟩
  rw [if_neg q] at h'
  by_cases q : S.stage = 12
  · rw [if_pos q] at h'
    exact iv_takeListed h hb q h'
  rw [if_neg q] at h'
  by_cases q : S.stage = 13
  · rw [if_pos q] at h'
    unfold takeLettersS at h'
    split at h'
    · cases h'
    · next hg =>
      obtain ⟨y1, y2, y3⟩ := iv_letters l S S' h hb q (good_letters hg) h'
      exact ⟨y1, y2⟩
  rw [if_neg q] at h'
  cases h'
theorem iv_word {S S' : RSt} {l : List Int} (h : Iv S) (hb : Bh S) (h' : wordS S l = .ok S') : Iv S' ∧ Bh S' := by
  have o6 : S.stage ≤ 13 := h.1.2.2.2.2.2
  unfold wordS at h'
  split at h'
  · unfold keyS at h'
    split at h'
    · next q0 =>
      unfold unlabelledS at h'
      split at h'
      · split at h'
        · cases h'
        · obtain ⟨y1, y2⟩ := iv_names h q0 (by decide) h'
          exact ⟨y1, bh0 (by omega)⟩
      · split at h'
        · obtain ⟨y1, y2⟩ := iv_names h q0 (by decide) h'
          exact ⟨y1, bh0 (by omega)⟩
        · split at h'
          · obtain ⟨y1, y2⟩ := iv_names h q0 (by decide) h'
            exact ⟨y1, bh0 (by omega)⟩
          · split at h'
            · obtain ⟨y1, y2⟩ := iv_open h q0 h'
              exact ⟨y1, bh0 (by omega)⟩
            · split at h'
              · obtain ⟨y1, y2⟩ := iv_close h q0 h'
                exact ⟨y1, bh0 (by omega)⟩
              · cases h'
    · split at h'
      · obtain ⟨y1, y2⟩ := iv_endNames h h'
        exact ⟨y1, bh0 (by omega)⟩
      · split at h'
        · next q4 =>
          have hk := h'
          obtain ⟨y1, y2⟩ := iv_takeKind h q4 h'
          refine ⟨y1, ?_⟩
          unfold takeKindS at hk
          split at hk
          · injection hk with hk; rw [← hk]; exact bh0 (by show 8 < 12; decide)
          · split at hk
            · injection hk with hk; rw [← hk]; exact bh0 (by show 8 < 12; decide)
            · split at hk
              · injection hk with hk; rw [← hk]; exact bh0 (by show 5 < 12; decide)
              · split at hk
                · injection hk with hk; rw [← hk]; exact bh0 (by show 8 < 12; decide)
                · cases hk
        · split at h'
          · next q7 =>
            split at h'
            · obtain ⟨y1, y2⟩ := iv_declare h (Or.inl q7.symm) S.cmand S.cmand S.ca (fun z => by have := h.2.2.2.2.2.2.1.2.2.1 (Or.inr q7); omega) h'
              exact ⟨y1, bh0 (by omega)⟩
            · cases h'
          · split at h'
            · next q9 =>
              obtain ⟨y1, y2⟩ := iv_endSymbols h q9 h'
              exact ⟨y1, bh0 (by omega)⟩
            · split at h'
              · next qp =>
                split at h'
                · obtain ⟨y1, y2⟩ := iv_endProof h (by omega) h'
                  exact ⟨y1, bh0 (by omega)⟩
                · cases h'
              · cases h'
  · split at h'
    · cases h'
    · refine iv_name h hb h'
theorem iv_z : Iv RSt.z ∧ Bh RSt.z := by
  refine ⟨⟨⟨by decide, by decide, by decide, by decide, by decide, by decide⟩, fun i x hx => ?_, fun k s hk => ?_, ⟨⟨fun v _ hv => ?_, fun v _ => ?_, fun v _ hv => ?_, fun e he => ?_⟩, fun t o ho => ?_⟩, fun p hp => ?_, lab5 (Or.inl rfl), (cur0 (by decide)).1, (cur0 (by decide)).2.1, (cur0 (by decide)).2.2, fun j x hx => ?_⟩, bh0 (by decide)⟩
  · have h2 : ([] : List RNm)[i]? = some x := hx
    simp at h2
  · have h2 : ([] : List RSm)[k]? = some s := hk
    simp at h2
  · have h2 : tb (Int64.ofNat 0) v = true := hv
    rw [tb_zero] at h2; cases h2
  · show tb (Int64.ofNat 0) v = true ↔ _
    rw [tb_zero]
    constructor
    · intro z; cases z
    · rintro ⟨f, f1, _⟩
      have h2 : tb (Int64.ofNat 0) f = true := f1
      rw [tb_zero] at h2; cases h2
  · have h2 : tb (Int64.ofNat 0) v = true := hv
    rw [tb_zero] at h2; cases h2
  · have h2 : e < 0 := he
    omega
  · have h2 : ([] : List (Int64 × Int64 × Int64 × Nat))[t]? = some o := ho
    simp at h2
  · have h2 : p ∈ ([] : List (Nat × Nat)) := hp
    cases h2
  · have h2 : ([] : List RAs)[j]? = some x := hx
    simp at h2
