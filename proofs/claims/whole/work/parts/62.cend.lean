/-! ===== the class's steps: the last of an expression ===== -/
theorem c_endSymbols {S : RSt} {g : G2} (h : CRep S g) (hi : Iv S) (hs : S.stage = 9) (k : Int) (hk : ir k) : OutC S (f_Reader_endSymbols_26 k g) (endSymbolsS S k) := by
  have h' := h
  obtain ⟨⟨hN, hS, hA, h38⟩, hX, hR, hC, hP, hL⟩ := h
  have m40 : S.sms.length < 40 := (hi.2.2.2.2.2.2.1.1 (by omega)).2.1
  have k3 : S.ckind ≤ 3 := hi.2.2.2.2.2.2.1.2.2.2.1 (by omega)
  have h9 : g.2.2.1 9 S.sms.length = (S.ckind : Int) := hC.2.1 (by omega)
  have s1 := hS.1
  have e9 : rA g 9 (rI g 10 4) = (S.ckind : Int) := by show g.2.2.1 9 (rI g 10 4).toNat = _; rw [s1, Int.toNat_natCast]; exact h9
  have hy : f_Statements_isHypothesis_8 (rI g 10 4) g = some ((if S.ckind ≤ 1 then 1 else 0), g) := by rw [s1]; exact c_isHypo (S := S) _ _ m40 h9 k3
  unfold f_Reader_endSymbols_26 endSymbolsS
  rw [if_pos (by omega), e9, if_pos (by omega)]
  by_cases q3 : S.ckind = 3
  · rw [if_pos (by omega), if_pos hk, if_pos q3]
    by_cases q : k = 61
    · rw [if_pos q, if_neg (fun z => z q), bd_some hy, if_neg (show ¬ S.ckind ≤ 1 by omega), if_pos (by decide), if_pos rfl, if_neg (by omega), if_neg (fun z => z q3), s1]
      obtain ⟨g', a1, a2, a3, a4, a5, a6⟩ := c_beginAssertion h' hi hs
      rw [a1]
      obtain ⟨c1, c2, c3, c4⟩ := hC.1 (by omega)
      have hX' := hX.kk a2 (by decide)
      refine ⟨gI (gI (gI g' 34 4 0) 33 7 0) 25 6 10, rfl, a3, hX', ⟨rfl, fun _ z => absurd z (by show ¬ (10 ≤ 3); decide)⟩, ⟨fun _ => ⟨?_, ?_, ?_, ?_⟩, fun _ => ?_, fun _ => ⟨a4, a5, a6⟩⟩, fun _ => ⟨rfl, fun r e he => by (have he2 : ([] : List (List Nat × Int64))[r]? = some e := he); simp at he2, rfl⟩, fun z => absurd z (by show ¬ (12 ≤ 10); decide)⟩
      · show g'.2.2.2 8 _ = _
        rw [(a2 8 (by decide)).2.2.2]; exact c1
      · show g'.2.2.1 12 _ = _
        rw [(a2 12 (by decide)).2.2.1]; exact c2
      · show g'.2.2.2 13 _ = _
        rw [(a2 13 (by decide)).2.2.2]; exact c3
      · show RowAt (g'.2.2.1 11) _ _
        rw [(a2 11 (by decide)).2.2.1]; exact c4
      · show g'.2.2.1 9 _ = _
        rw [(a2 9 (by decide)).2.2.1]; exact h9
    · rw [if_neg q, if_pos q]
      exact ⟨g, rfl, ⟨hN, hS, hA, h38⟩, by decide, by decide⟩
  · rw [if_neg (by omega), if_pos hk, if_neg q3]
    by_cases q : k = 46
    · rw [if_pos q, if_neg (fun z => z q), bd_some hy]
      by_cases q1 : S.ckind ≤ 1
      · rw [if_pos q1, if_pos (by decide), if_neg (by decide), if_pos q1]
        exact (c_declare ⟨hN, hS, hA, h38⟩ hX hC hi (by omega) h9 k3 (fun z => absurd z (by omega))).bd
      · rw [if_neg q1, if_pos (by decide), if_pos rfl, if_neg q1, if_pos q3, s1]
        obtain ⟨g', a1, a2, a3, a4, a5, a6⟩ := c_beginAssertion h' hi hs
        rw [a1]
        obtain ⟨c1, c2, c3, c4⟩ := hC.1 (by omega)
        have hC' : CC (beginAssertionS S) g' := by
          refine ⟨fun _ => ⟨?_, ?_, ?_, ?_⟩, fun _ => ?_, fun z => absurd z (by show ¬ (10 ≤ S.stage); omega)⟩
          · show g'.2.2.2 8 S.sms.length = _
            rw [(a2 8 (by decide)).2.2.2]; exact c1
          · show g'.2.2.1 12 S.sms.length = _
            rw [(a2 12 (by decide)).2.2.1]; exact c2
          · show g'.2.2.2 13 S.sms.length = _
            rw [(a2 13 (by decide)).2.2.2]; exact c3
          · show RowAt (g'.2.2.1 11) (24 * S.sms.length) S.crow
            rw [(a2 11 (by decide)).2.2.1]; exact c4
          · show g'.2.2.1 9 S.sms.length = _
            rw [(a2 9 (by decide)).2.2.1]; exact h9
        have hd := c_declare' (S := beginAssertionS S) (g := g') a3 (hX.kk a2 (by decide)) hC' (show (beginAssertionS S).nms.length < 60 from (hi.2.2.2.2.2.2.1.1 (by omega)).1) m40 (show 4 ≤ S.stage by omega) (by show g'.2.2.1 9 S.sms.length = _; rw [(a2 9 (by decide)).2.2.1]; exact h9) k3 (fun _ => ⟨a4, a5, a6⟩)
        exact hd.bd
    · rw [if_neg q, if_pos q]
      exact ⟨g, rfl, ⟨hN, hS, hA, h38⟩, by decide, by decide⟩
