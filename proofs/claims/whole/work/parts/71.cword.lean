/-! ===== the class: every word, and the whole reading ===== -/
theorem c_endProof {S : RSt} {g : G2} (h : CRep S g) (hi : Iv S) (hs : S.stage = 10 ∨ S.stage = 11 ∨ S.stage = 13) : OutC S (f_Reader_endProof_26 g) (endProofS S) := by
  have h' := h
  obtain ⟨⟨hN, hS, hA, h38⟩, hX, hR, hC, hP, hL⟩ := h
  have n60 := hi.1.1
  have m40 : S.sms.length < 40 := (hi.2.2.2.2.2.2.1.1 (by omega)).2.1
  obtain ⟨p1, p2, p3⟩ := hP (by omega)
  obtain ⟨k1, k2, k3, k4, k5, k6, _⟩ := hi.2.2.2.2.2.2.2.1 (by omega)
  obtain ⟨c1, c2, c3, c4⟩ := hC.1 (by omega)
  obtain ⟨⟨r1, r2, r3, r4⟩, _⟩ := hi.2.2.2.2.2.2.1.2.2.2.2.2.2.2.2 (by omega)
  have bad : CK S g := ⟨hN, hS, hA, h38⟩
  have hd : OutC S (f_Reader_declare_26 g) (declareS S) := c_declare bad hX hC hi (by omega) (hC.2.1 (by omega)) (by omega) (fun _ => hC.2.2 (by omega))
  have hfin : f_Proof_finish_34 (S.sms.length : Int) g = some ((if S.gap = true then 0 else if S.stk.length ≠ 1 then -9 else if stR S 0 = S.crow then 0 else -10), g) := by
    unfold f_Proof_finish_34
    rw [p3, if_pos (b01_ir _)]
    cases hg : S.gap with
    | true => rfl
    | false =>
      rw [if_pos (by decide), if_neg (show ¬ false = true by decide), if_pos (by omega)]
      by_cases q1 : S.stk.length = 1
      · obtain ⟨e, he⟩ := ex_get (l := S.stk) (k := 0) (by omega)
        obtain ⟨f1, f2, f3⟩ := p2 0 e he
        obtain ⟨⟨u1, u2, u3, u4⟩, _⟩ := k6 e (List.mem_of_getElem? he)
        have hst : stR S 0 = e.1 := by unfold stR; rw [he]; rfl
        have hsm := c_same11 (g := g) 0 S.sms.length (by decide) m40 e.1 S.crow f2 c2 ⟨u2, r2⟩ f1 c4 ⟨fun v hv => by have := (u3 v hv).1; omega, fun v hv => by have := (r3 v hv).1; omega⟩
        have hsm' : f_Expressions_isSame_35_11 0 (S.sms.length : Int) g = some (b01 (decide (e.1 = S.crow)), g) := hsm
        rw [if_pos (by omega), bd_some hsm', if_pos (b01_ir _), if_neg (show ¬ S.stk.length ≠ 1 from fun z => z q1), hst]
        by_cases q2 : e.1 = S.crow
        · rw [decide_eq_true q2, if_pos q2]; rfl
        · rw [decide_eq_false q2, if_neg q2]; rfl
      · rw [if_neg (by omega), if_pos (show S.stk.length ≠ 1 from q1)]
  have hrest : OutC S (bd (f_Proof_finish_34 (S.sms.length : Int) g) fun r5 g5 => if ir r5 then if r5 = 0 then bd (f_Reader_declare_26 g5) fun r8 g8 => some (r8, g8) else some (r5, g5) else none) (if S.gap = true then declareS S else if S.stk.length ≠ 1 then .error (-9) else if stR S 0 = S.crow then declareS S else .error (-10)) := by
    rw [bd_some hfin]
    by_cases hg : S.gap = true
    · rw [if_pos hg, if_pos hg, if_pos (by decide), if_pos rfl]; exact hd.bd
    · rw [if_neg hg, if_neg hg]
      by_cases q1 : S.stk.length ≠ 1
      · rw [if_pos q1, if_pos q1, if_pos (by decide), if_neg (by decide)]
        exact ⟨g, rfl, bad, by decide, by decide⟩
      · rw [if_neg q1, if_neg q1]
        by_cases q2 : stR S 0 = S.crow
        · rw [if_pos q2, if_pos q2, if_pos (by decide), if_pos rfl]; exact hd.bd
        · rw [if_neg q2, if_neg q2, if_pos (by decide), if_neg (by decide)]
          exact ⟨g, rfl, bad, by decide, by decide⟩
  unfold f_Reader_endProof_26 endProofS
  rw [hR.1, if_pos (by omega), hS.1]
  by_cases h13 : S.stage = 13
  · have l8 := (hL (by omega)).2.2.2.2.2.2.2.1
    rw [if_pos (by omega), l8, if_pos (b01_ir _)]
    cases hin : S.ins with
    | true =>
      rw [if_neg (by decide), if_pos ⟨h13, rfl⟩]
      exact ⟨g, rfl, bad, by decide, by decide⟩
    | false =>
      rw [if_pos (by decide), if_neg (show ¬ (S.stage = 13 ∧ false = true) by simp)]
      exact hrest
  · rw [if_neg (by omega), if_neg (show ¬ (S.stage = 13 ∧ S.ins = true) from fun z => h13 z.1)]
    exact hrest
theorem c_key {S : RSt} {g : G2} (h : CRep S g) (hi : Iv S) (l : List Int) (hw : WordC g l) (ho : WdOk l) : OutC S (f_Reader_takeKeyword_26_2 g) (keyS S (kwOf l)) := by
  have o6 : S.stage ≤ 13 := hi.1.2.2.2.2.2
  obtain ⟨k1, k2, k3⟩ := e_keyword g l hw ho
  have hk : ir (kwOf l) := by omega
  have hst := h.2.2.1.1
  have wd : OutC S (some ((-3 : Int), g)) (.error (-3)) := ⟨g, rfl, h.1, by decide, by decide⟩
  unfold f_Reader_takeKeyword_26_2 keyS
  rw [bd_some k1, hst, if_pos (by omega)]
  by_cases q : S.stage = 0
  · rw [if_pos (by omega), if_pos q]; exact (c_unlabelled h hi q _ hk).bd
  rw [if_neg (by omega), if_neg q]
  by_cases q : S.stage = 1
  · rw [if_pos (by omega), if_pos (by omega)]; exact (c_endNames h hi (by omega) _ hk).bd
  rw [if_neg (by omega)]
  by_cases q : S.stage = 2
  · rw [if_pos (by omega), if_pos (by omega)]; exact (c_endNames h hi (by omega) _ hk).bd
  rw [if_neg (by omega)]
  by_cases q : S.stage = 3
  · rw [if_pos (by omega), if_pos (by omega)]; exact (c_endNames h hi (by omega) _ hk).bd
  rw [if_neg (by omega), if_neg (show ¬ S.stage ≤ 3 by omega)]
  by_cases q : S.stage = 4
  · rw [if_pos (by omega), if_pos q]; exact (c_takeKind h hi q _ hk).bd
  rw [if_neg (by omega), if_neg q]
  by_cases q : S.stage = 5
  · rw [if_pos (by omega), if_neg (by omega), if_neg (by omega), if_neg (by omega)]; exact wd
  rw [if_neg (by omega)]
  by_cases q : S.stage = 6
  · rw [if_pos (by omega), if_neg (by omega), if_neg (by omega), if_neg (by omega)]; exact wd
  rw [if_neg (by omega)]
  have dot : ∀ {o : Option (Int × G2)} {r : RS}, OutC S o r → OutC S (if ir (kwOf l) then if kwOf l = 46 then bd o fun r g => some (r, g) else some ((-3 : Int), g) else none) (if kwOf l = 46 then r else .error (-3)) := by
    intro o r hh
    rw [if_pos hk]
    by_cases z : kwOf l = 46
    · rw [if_pos z, if_pos z]; exact hh.bd
    · rw [if_neg z, if_neg z]; exact wd
  by_cases q : S.stage = 7
  · rw [if_pos (by omega), if_pos q]
    exact dot (c_declare h.1 h.2.1 h.2.2.2.1 hi (by omega) (h.2.2.2.1.2.1 (by omega)) (hi.2.2.2.2.2.2.1.2.2.2.1 (by omega)) (fun z => by have := hi.2.2.2.2.2.2.1.2.2.1 (Or.inr q); omega))
  rw [if_neg (by omega), if_neg q]
  by_cases q : S.stage = 8
  · rw [if_pos (by omega), if_neg (by omega), if_neg (by omega)]; exact wd
  rw [if_neg (by omega)]
  by_cases q : S.stage = 9
  · rw [if_pos (by omega), if_pos q]; exact (c_endSymbols h hi q _ hk).bd
  rw [if_neg (by omega), if_neg q]
  by_cases q : S.stage = 10
  · rw [if_pos (by omega), if_pos (show S.stage = 10 ∨ S.stage = 11 ∨ S.stage = 13 by omega)]; exact dot (c_endProof h hi (by omega))
  rw [if_neg (by omega)]
  by_cases q : S.stage = 11
  · rw [if_pos (by omega), if_pos (show S.stage = 10 ∨ S.stage = 11 ∨ S.stage = 13 by omega)]; exact dot (c_endProof h hi (by omega))
  rw [if_neg (by omega)]
  by_cases q : S.stage = 12
  · rw [if_pos (by omega), if_neg (by omega)]; exact wd
  rw [if_neg (by omega), if_pos (by omega), if_pos (show S.stage = 10 ∨ S.stage = 11 ∨ S.stage = 13 by omega)]
  exact dot (c_endProof h hi (by omega))
theorem c_name {S : RSt} {g : G2} (h : CRep S g) (hi : Iv S) (hb : Bh S) (l : List Int) (hw : WordC g l) (ho : WdOk l) : OutC S (f_Reader_takeName_26_2 g) (if 8 < l.length then .error (-3) else nameS S (cdOf l) l) := by
  have hw' := hw
  obtain ⟨b, w1, w2, w3, w4, w5, w6⟩ := hw
  have o6 : S.stage ≤ 13 := hi.1.2.2.2.2.2
  have n60 := hi.1.1
  have hst := h.2.2.1.1
  have wd : OutC S (some ((-3 : Int), g)) (.error (-3)) := ⟨g, rfl, h.1, by decide, by decide⟩
  have hlong : f_Text_isTooLong_2 g = some ((if 8 < l.length then 1 else 0), g) := by
    unfold f_Text_isTooLong_2
    rw [if_pos (by omega)]
    by_cases q : 8 < l.length
    · rw [if_pos (by omega), if_pos q]
    · rw [if_neg (by omega), if_neg q]
  unfold f_Reader_takeName_26_2
  rw [bd_some hlong]
  by_cases q : 8 < l.length
  · rw [if_pos q, if_pos (by decide), if_neg (by decide), if_pos q]; exact wd
  rw [if_neg q, if_pos (by decide), if_pos rfl, if_neg q, hst, w5, if_pos (by omega)]
  unfold nameS
  have hf : f_Names_find_4 (cdOf l) g = some (fnd S (cdOf l), g) := c_find h.1.1 n60 _
  by_cases q : S.stage = 0
  · rw [if_pos (by omega), if_pos q]; exact (c_takeLabel h hi q _).bd
  rw [if_neg (by omega), if_neg q]
  by_cases q : S.stage = 1
  · rw [if_pos (by omega), if_pos q]; exact (c_declareConstant h hi q _).bd
  rw [if_neg (by omega), if_neg q]
  by_cases q : S.stage = 2
  · rw [if_pos (by omega), if_pos q]; exact (c_declareVariable h hi q _).bd
  rw [if_neg (by omega), if_neg q]
  by_cases q : S.stage = 3
  · rw [if_pos (by omega), if_pos q, bd_some hf]; exact (c_takeApart h hi q _).bd
  rw [if_neg (by omega), if_neg q]
  by_cases q : S.stage = 4
  · rw [if_pos (by omega), if_neg (by omega), if_neg (by omega), if_neg (by omega), if_neg (by omega), if_neg (by omega), if_neg (by omega), if_neg (by omega), if_neg (by omega)]; exact wd
  rw [if_neg (by omega)]
  by_cases q : S.stage = 5
  · rw [if_pos (by omega), if_pos q, bd_some hf]; exact (c_takeType h hi (Or.inl q) _).bd
  rw [if_neg (by omega), if_neg q]
  by_cases q : S.stage = 6
  · rw [if_pos (by omega), if_pos q, bd_some hf]; exact (c_takeFloating h hi q _).bd
  rw [if_neg (by omega), if_neg q]
  by_cases q : S.stage = 7
  · rw [if_pos (by omega), if_neg (by omega), if_neg (by omega), if_neg (by omega), if_neg (by omega), if_neg (by omega), if_neg (by omega)]; exact wd
  rw [if_neg (by omega)]
  by_cases q : S.stage = 8
  · rw [if_pos (by omega), if_pos q, bd_some hf]; exact (c_takeType h hi (Or.inr q) _).bd
  rw [if_neg (by omega), if_neg q]
  by_cases q : S.stage = 9
  · rw [if_pos (by omega), if_pos q, bd_some hf]; exact (c_takeSymbol h hi q _).bd
  rw [if_neg (by omega), if_neg q]
  by_cases q : S.stage = 10
  · rw [if_pos (by omega), if_pos q]; exact (c_beginSteps h hi (iv_stage hi (by omega) 11 (by decide) (by decide) (fun w => by omega)) q _).bd
  rw [if_neg (by omega), if_neg q]
  by_cases q : S.stage = 11
  · rw [if_pos (by omega), if_pos q]; exact (c_takeStep h hi (by omega) _).bd
  rw [if_neg (by omega), if_neg q]
  by_cases q : S.stage = 12
  · rw [if_pos (by omega), if_pos q]; exact (c_takeListed h hi q _).bd
  rw [if_neg (by omega), if_neg q, if_pos (by omega), if_pos (by omega)]
  exact (c_takeLetters h hi hb (by omega) l hw' ho).bd
