theorem asn_lt {S : RSt} (h : Iv S) (k : Nat) (y : RSm) (hy : S.sms[k]? = some y) (h2 : 2 ≤ y.kind) : y.asn < S.ass.length := ((h.2.2.1 k y hy).2.2.2.2 h2).1
theorem ex_name {S S' : RSt} {n : Nat} {c : Int64} {l : List Int} (h : Iv S) (hx : Ex S n) (hl : l.length ≤ 8) (h' : nameS S c l = .ok S') : Ex S' (n + 8) := by
  have n60 := h.1.1
  unfold nameS at h'
  split at h'
  · next q =>
    unfold takeLabelS at h'
    split at h'
    · cases h'
    · split at h'
      · cases h'
      · injection h' with h'; rw [← h']; exact ex_same hx rfl (by show 4 < 10; decide)
  · split at h'
    · next q =>
      unfold declareConstantS at h'
      split at h'
      · cases h'
      · next hf =>
        split at h'
        · cases h'
        · next h60 =>
          injection h' with h'; rw [← h']
          have hf' : fnd S c = -1 := Classical.byContradiction (fun z => hf z)
          refine ⟨⟨en_app hx.1.1 (c, 0, 0) (fun i y hy => fnd_none hf' i y hy) _ _ (by rw [if_pos (show RNm.role (c, 0, 0) = 0 from rfl)]) (fun i hi => ?_), hx.1.2.1, hx.1.2.2.mono (by omega)⟩, fun z => ?_⟩
          · rw [show decide (RNm.role (c, 0, 0) = 1) = false from rfl, Bool.false_and, Bool.or_false]
          · exact absurd (show 10 ≤ S.stage from z) (by omega)
    · split at h'
      · next q =>
        unfold declareVariableS at h'
        split at h'
        · next hf' =>
          split at h'
          · cases h'
          · next h60 =>
            injection h' with h'; rw [← h']
            refine ⟨⟨en_app hx.1.1 (c, 1, 0) (fun i y hy => fnd_none hf' i y hy) _ _ rfl (fun i hi => ?_), hx.1.2.1, hx.1.2.2.mono (by omega)⟩, fun z => ?_⟩
            · rw [show decide (RNm.role (c, 1, 0) = 1) = true from rfl, Bool.true_and]
              exact tb_orbit (by omega) hi
            · exact absurd (show 10 ≤ S.stage from z) (by omega)
        · split at h'
          · cases h'
          · injection h' with h'; rw [← h']; exact ex_same hx rfl (by show S.stage < 10; omega)
      · split at h'
        · next q =>
          unfold takeApartS at h'
          split at h'
          · split at h' <;> cases h'
          · split at h'
            · cases h'
            · split at h'
              · cases h'
              · injection h' with h'; rw [← h']; exact ex_same hx rfl (by show S.stage < 10; omega)
        · have ht : ∀ id, takeTypeS S id = .ok S' → Ex S' (n + 8) := fun id h' => by
            unfold takeTypeS at h'
            split at h'
            · split at h' <;> cases h'
            · injection h' with h'; rw [← h']; exact ex_same hx rfl (by show (if S.stage = 5 then 6 else 9) < 10; split <;> decide)
          split at h'
          · exact ht _ h'
          · split at h'
            · unfold takeFloatingS at h'
              split at h'
              · split at h' <;> cases h'
              · split at h'
                · cases h'
                · injection h' with h'; rw [← h']; exact ex_same hx rfl (by show 7 < 10; decide)
            · split at h'
              · exact ht _ h'
              · split at h'
                · next q =>
                  unfold takeSymbolS at h'
                  split at h'
                  · cases h'
                  · split at h'
                    · cases h'
                    · injection h' with h'; rw [← h']; exact ex_same hx rfl (by show S.stage < 10; omega)
                · split at h'
                  · next q =>
                    have hu := (hx.2 (by omega)).2
                    unfold beginStepsS at h'
                    split at h'
                    · obtain ⟨t1, t2⟩ := take_q h'
                      exact ex_proof hx (by omega) t1 t2 ((ub_take h' (show UB (S.uStage 11) n from hu)).mono (by omega))
                    · injection h' with h'; rw [← h']
                      exact ex_proof hx (by omega) rfl rfl (hu.mono (show n ≤ n + 8 by omega))
                  · split at h'
                    · next q =>
                      have hu := (hx.2 (by omega)).2
                      obtain ⟨t1, t2⟩ := take_q h'
                      exact ex_proof hx (by omega) t1 t2 ((ub_take h' hu).mono (by omega))
                    · split at h'
                      · next q =>
                        have hu := (hx.2 (by omega)).2
                        unfold takeListedS at h'
                        split at h'
                        · injection h' with h'; rw [← h']
                          exact ex_proof hx (by omega) rfl rfl (hu.mono (show n ≤ n + 8 by omega))
                        · split at h'
                          · cases h'
                          · split at h'
                            · cases h'
                            · split at h'
                              · cases h'
                              · injection h' with h'; rw [← h']
                                exact ex_proof hx (by omega) rfl rfl (hu.mono (show n ≤ n + 8 by omega))
                      · split at h'
                        · next q =>
                          have hu := (hx.2 (by omega)).2
                          unfold takeLettersS at h'
                          split at h'
                          · cases h'
                          · obtain ⟨t1, t2⟩ := letters_q l S S' h'
                            exact ex_proof hx (by omega) t1 t2 ((ub_letters l S S' n h' hu).mono (by omega))
                        · cases h'
theorem ex_word {S S' : RSt} {n : Nat} {l : List Int} (h : Iv S) (hx : Ex S n) (h' : wordS S l = .ok S') : Ex S' (n + 8) := by
  unfold wordS at h'
  split at h'
  · unfold keyS at h'
    split at h'
    · next q0 =>
      have hb : ∀ k, k ≤ 3 → beginNamesS S k = .ok S' → Ex S' (n + 8) := fun k hk h' => by
        unfold beginNamesS at h'
        injection h' with h'; rw [← h']; exact ex_same hx rfl (by show k < 10; omega)
      unfold unlabelledS at h'
      split at h'
      · split at h'
        · cases h'
        · exact hb 1 (by decide) h'
      · split at h'
        · exact hb 3 (by decide) h'
        · split at h'
          · exact hb 2 (by decide) h'
          · split at h'
            · unfold openS at h'
              split at h'
              · cases h'
              · injection h' with h'; rw [← h']; exact ex_same hx rfl (by show S.stage < 10; omega)
            · split at h'
              · unfold closeS at h'
                split at h'
                · cases h'
                · injection h' with h'; rw [← h']; exact ex_same hx rfl (by show S.stage < 10; omega)
              · cases h'
    · split at h'
      · unfold endNamesS at h'
        generalize (if S.stage = 3 then 2 else 1) = t at h'
        split at h'
        · cases h'
        · injection h' with h'; rw [← h']; exact ex_same hx rfl (by show 0 < 10; decide)
      · split at h'
        · unfold takeKindS at h'
          split at h'
          · injection h' with h'; rw [← h']; exact ex_same hx rfl (by show 8 < 10; decide)
          · split at h'
            · injection h' with h'; rw [← h']; exact ex_same hx rfl (by show 8 < 10; decide)
            · split at h'
              · injection h' with h'; rw [← h']; exact ex_same hx rfl (by show 5 < 10; decide)
              · split at h'
                · injection h' with h'; rw [← h']; exact ex_same hx rfl (by show 8 < 10; decide)
                · cases h'
        · split at h'
          · next q7 =>
            have c0 := h.2.2.2.2.2.2.1.2.2.1 (Or.inr q7)
            have hf := (h.2.2.2.2.2.2.1.1 (by omega)).2.2.2.2
            split at h'
            · exact ex_declare hx.1 hf (asn_lt h) (fun z => absurd z (by omega)) h'
            · cases h'
          · split at h'
            · next q9 =>
              have hf := (h.2.2.2.2.2.2.1.1 (by omega)).2.2.2.2
              have c3 := h.2.2.2.2.2.2.1.2.2.2.1 (by omega)
              unfold endSymbolsS at h'
              generalize (if S.ckind = 3 then (61 : Int) else 46) = t at h'
              split at h'
              · cases h'
              · split at h'
                · exact ex_declare hx.1 hf (asn_lt h) (fun z => absurd z (by omega)) h'
                · split at h'
                  · next k1 k3 =>
                    have hal := asn_lt h
                    exact ex_declare (S := beginAssertionS S) hx.1 hf hal (fun z => ⟨pairsOf_nodup _ _ _, ⟨Nat.zero_le _, fun _ => Nat.zero_le _⟩, Or.inl ⟨show S.ckind = 2 by omega, rfl⟩⟩) h'
                  · injection h' with h'; rw [← h']
                    exact ⟨hx.1.mono (by omega), fun _ => ⟨pairsOf_nodup _ _ _, ⟨Nat.zero_le _, fun _ => Nat.zero_le _⟩⟩⟩
            · split at h'
              · next qp =>
                have hf := (h.2.2.2.2.2.2.1.1 (by omega)).2.2.2.2
                have k3 := (h.2.2.2.2.2.2.2.1 (by omega)).1
                have hc := hx.2 (by omega)
                have hd : declareS S = .ok S' → Ex S' (n + 8) := fun h' => ex_declare hx.1 hf (asn_lt h) (fun _ => ⟨hc.1, hc.2, Or.inr k3⟩) h'
                split at h'
                · unfold endProofS at h'
                  split at h'
                  · cases h'
                  · split at h'
                    · exact hd h'
                    · split at h'
                      · cases h'
                      · split at h'
                        · exact hd h'
                        · cases h'
                · cases h'
              · cases h'
  · split at h'
    · cases h'
    · exact ex_name h hx (by omega) h'
theorem ex_z : Ex RSt.z 0 := by
  refine ⟨⟨⟨fun i j x y hx => ?_, rfl, fun i hi => ?_⟩, rfl, fun j x hx => ?_⟩, fun z => absurd z (by show ¬ 10 ≤ 0; decide)⟩
  · have h2 : ([] : List RNm)[i]? = some x := hx
    simp at h2
  · show tb (Int64.ofNat 0) i = _
    rw [tb_zero]
    rfl
  · have h2 : ([] : List RAs)[j]? = some x := hx
    simp at h2
/-- what holds at the end of a reading -/
theorem run_inv {W : Nat} {b : Bool} : ∀ (ts : List (Nat × List Int)) (S : RSt) (n : Nat), Iv S → Bh S → Ex S n → (∀ p ∈ ts, p.1 ≤ W) → Iv (runS W b S ts).2.2 ∧ Ex (runS W b S ts).2.2 (n + 8 * ts.length) ∧ -1 ≤ (runS W b S ts).2.1 ∧ (runS W b S ts).2.1 ≤ (W : Int) := by
  intro ts
  induction ts with
  | nil =>
    intro S n hi hb hx _
    unfold runS
    split
    · exact ⟨hi, hx, by show (-1 : Int) ≤ (W : Int); omega, by show (W : Int) ≤ (W : Int); omega⟩
    · exact ⟨hi, hx, by show (-1 : Int) ≤ -1; omega, by show (-1 : Int) ≤ (W : Int); omega⟩
  | cons t ts ih =>
    intro S n hi hb hx hp
    obtain ⟨j, l⟩ := t
    have hj : j ≤ W := hp (j, l) (by simp)
    rw [List.length_cons]
    unfold runS
    split
    · exact ⟨hi, ⟨hx.1.mono (by omega), fun z => ⟨(hx.2 z).1, (hx.2 z).2.mono (by omega)⟩⟩, by show (-1 : Int) ≤ (j : Int); omega, by show (j : Int) ≤ (W : Int); omega⟩
    · next S1 h1 =>
      obtain ⟨y1, y2⟩ := iv_word hi hb h1
      have := ih S1 (n + 8) y1 y2 (ex_word hi hx h1) (fun p hq => hp p (by simp [hq]))
      rw [show n + 8 * (ts.length + 1) = n + 8 + 8 * ts.length by omega]
      exact this
theorem toks_lt : ∀ (ws : List (List Int)) (j : Nat) (b : Bool), ∀ p ∈ (toks j b ws).1, p.1 < j + ws.length := by
  intro ws
  induction ws with
  | nil => intro j b p hp; cases b <;> cases hp
  | cons l ws ih =>
    intro j b p hp
    rw [List.length_cons]
    cases b with
    | true =>
      have := ih (j + 1) _ p hp
      omega
    | false =>
      unfold toks at hp
      split at hp
      · have := ih (j + 1) _ p hp
        omega
      · rcases List.mem_cons.mp hp with z | z
        · subst z; show j < _; omega
        · have := ih (j + 1) _ p z
          omega
