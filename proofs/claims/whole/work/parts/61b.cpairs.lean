theorem c_keepI (n a x : Nat) (ap : Nat → Int64) (V : Int64) (hn : n ≤ 60) (ha : a < 40) (hx : x < n) (hv : tb V x = true) (L : List (Nat × Nat)) (hL : (L ++ pI ap V x n).length ≤ 40) : ∀ (k m j : Nat) (g : G2), j + k = n → x < j → k < m → rI g 3 3 = (n : Int) → QX a (L ++ pI ap V x j) g → ∃ (m' : Nat) (g' : G2), m ≤ m' + k + 1 ∧ l_Reader_keepPairs_26 m 1 V (x : Int) (ap x &&& V) (j : Int) g = l_Reader_keepPairs_26 m' 0 V ((x : Int) + 1) 0 0 g' ∧ QX a (L ++ pI ap V x n) g' ∧ SQ a g g' := by
  intro k
  induction k with
  | zero =>
    intro m j g hj hxj hm h3 hQ
    obtain ⟨m, rfl⟩ : ∃ m', m = m' + 1 := ⟨m - 1, by omega⟩
    have e : j = n := by omega
    subst e
    refine ⟨m, g, by omega, ?_, hQ, SQ.rf⟩
    rw [s_Reader_keepPairs_26_1]
    unfold b_Reader_keepPairs_26_1
    rw [if_pos (by omega), if_pos (by omega), if_neg (by omega)]
  | succ k ih =>
    intro m j g hj hxj hm h3 hQ
    obtain ⟨m, rfl⟩ : ∃ m', m = m' + 1 := ⟨m - 1, by omega⟩
    rw [s_Reader_keepPairs_26_1]
    unfold b_Reader_keepPairs_26_1
    rw [if_pos (by omega), if_pos (by omega), if_pos (by omega)]
    by_cases h0 : ap x &&& V = Int64.ofNat 0
    · rw [if_pos h0]
      have hz : ∀ y, y < n → ¬ (x < y ∧ tb (ap x) y = true ∧ tb V y = true) := by
        intro y hy q
        have := (tb_eq0 (ap x &&& V)).mp h0 y (by omega)
        rw [tb_and, q.2.1, q.2.2] at this
        exact absurd this (by decide)
      refine ⟨m, g, by omega, rfl, ?_, SQ.rf⟩
      rw [pI_none ap V x n hz]
      rw [pI_none ap V x j (fun y hy => hz y (by omega))] at hQ
      exact hQ
    · rw [if_neg h0]
      by_cases hb : tb (ap x &&& V) j = true
      · have hb' := hb
        rw [tb_and, Bool.and_eq_true] at hb'
        rw [if_neg (by rw [tb_t (by omega)]; simpa using hb), bd_some (show f_Context_pairOf (x : Int) (j : Int) g = some (((x : Int) * 60) + j, g) from rfl)]
        have hlen := pI_len ap V x (j + 1) k
        rw [show j + 1 + k = n by omega, pI_succ, if_pos ⟨hxj, hb'⟩, List.length_append] at hlen
        simp only [List.length_cons, List.length_nil] at hlen
        rw [List.length_append] at hL
        obtain ⟨g1, a1, a2, a3⟩ := c_addPairA (x := x) (y := j) hQ ha (by rw [List.length_append]; omega)
        rw [a1]
        obtain ⟨m', g', b1, b2, b3, b4⟩ := ih m (j + 1) g1 (by omega) (by omega) (by omega) (by rw [show rI g1 3 3 = rI g 3 3 from congrFun (a3.1 3 (by decide)).1 3]; exact h3) (by rw [pI_succ, if_pos ⟨hxj, hb'⟩, ← List.append_assoc]; exact a2)
        exact ⟨m', g', by omega, b2, b3, a3.tr b4⟩
      · rw [if_pos (by rw [tb_t (by omega)]; exact hb)]
        have hc : ¬ (x < j ∧ tb (ap x) j = true ∧ tb V j = true) := fun q => hb (by rw [tb_and, q.2.1, q.2.2]; rfl)
        obtain ⟨m', g', b1, b2, b3, b4⟩ := ih m (j + 1) g (by omega) (by omega) (by omega) h3 (by rw [pI_succ, if_neg hc, List.append_nil]; exact hQ)
        exact ⟨m', g', by omega, b2, b3, b4⟩
theorem c_keepO (n a : Nat) (ap : Nat → Int64) (V : Int64) (hn : n ≤ 60) (ha : a < 40) (hL : (pairsOf n ap V).length ≤ 40) : ∀ (k m i : Nat) (g : G2), i + k = n → k * (n + 2) < m → rI g 3 3 = (n : Int) → (∀ v : Nat, v < 60 → g.2.2.2 28 v = ap v) → QX a (pO n ap V i) g → ∃ g', l_Reader_keepPairs_26 m 0 V (i : Int) 0 0 g = some g' ∧ QX a (pairsOf n ap V) g' ∧ SQ a g g' := by
  intro k
  induction k with
  | zero =>
    intro m i g hi hm h3 h28 hQ
    obtain ⟨m, rfl⟩ : ∃ m', m = m' + 1 := ⟨m - 1, by omega⟩
    have e : i = n := by omega
    subst e
    refine ⟨g, ?_, hQ, SQ.rf⟩
    rw [s_Reader_keepPairs_26_0]
    unfold b_Reader_keepPairs_26_0
    rw [if_pos (by omega), if_pos (by omega), if_neg (by omega)]
  | succ k ih =>
    intro m i g hi hm h3 h28 hQ
    rw [Nat.succ_mul] at hm
    obtain ⟨m, rfl⟩ : ∃ m', m = m' + 2 := ⟨m - 2, by omega⟩
    have hlen : (pO n ap V (i + 1)).length ≤ 40 := by
      have := pO_len n ap V (i + 1) k
      rw [show i + 1 + k = n by omega] at this
      have h2 : (pO n ap V n).length ≤ 40 := hL
      omega
    rw [s_Reader_keepPairs_26_0]
    unfold b_Reader_keepPairs_26_0
    rw [if_pos (by omega), if_pos (by omega), if_pos (by omega)]
    by_cases hv : tb V i = true
    · have e28 : rB g 28 ((i : Nat) : Int) = ap i := h28 i (by omega)
      rw [if_neg (by rw [tb_t (by omega)]; simpa using hv), if_pos (by omega), e28]
      have hF : pF n ap V i = pI ap V i n := by unfold pF pI; rw [if_pos hv]
      rw [pO_succ, hF] at hlen
      have h0 : pI ap V i (i + 1) = [] := pI_none ap V i (i + 1) (fun y hy q => by omega)
      obtain ⟨m', g1, b1, b2, b3, b4⟩ := c_keepI n a i ap V hn ha (by omega) hv (pO n ap V i) hlen (n - (i + 1)) (m + 1) (i + 1) g (by omega) (by omega) (by omega) h3 (by rw [h0, List.append_nil]; exact hQ)
      rw [show ((i : Int) + 1) = ((i + 1 : Nat) : Int) by omega]
      rw [show ((i : Int) + 1) = ((i + 1 : Nat) : Int) by omega] at b2
      rw [b2]
      obtain ⟨g', d1, d2, d3⟩ := ih m' (i + 1) g1 (by omega) (by omega) (by rw [show rI g1 3 3 = rI g 3 3 from congrFun (b4.1 3 (by decide)).1 3]; exact h3) (by rw [(b4.1 28 (by decide)).2.2.2]; exact h28) (by rw [pO_succ, hF]; exact b3)
      exact ⟨g', d1, d2, b4.tr d3⟩
    · rw [if_pos (by rw [tb_t (by omega)]; exact hv)]
      have hF : pF n ap V i = [] := by unfold pF; rw [if_neg hv]
      obtain ⟨g', d1, d2, d3⟩ := ih m (i + 1) g (by omega) (by omega) h3 h28 (by rw [pO_succ, hF, List.append_nil]; exact hQ)
      refine ⟨g', ?_, d2, d3⟩
      rw [s_Reader_keepPairs_26_1]
      unfold b_Reader_keepPairs_26_1
      by_cases hj : i + 1 < n
      · rw [if_pos (by omega), if_pos (by omega), if_pos (by omega), if_pos rfl]
        exact d1
      · rw [if_pos (by omega), if_pos (by omega), if_neg (by omega)]
        exact d1
theorem c_beginAssertion {S : RSt} {g : G2} (h : CRep S g) (hi : Iv S) (hs : S.stage = 9) : ∃ g', f_Reader_beginAssertion_26 (S.sms.length : Int) g = some g' ∧ KK (fun r => r ≠ 14 ∧ r ≠ 15 ∧ (r < 17 ∨ 24 < r)) g g' ∧ CK S g' ∧ g'.2.2.2 14 S.sms.length = (beginAssertionS S).cmand ∧ g'.2.2.1 15 S.sms.length = (S.ass.length : Int) ∧ AsAt g' S.ass.length (beginAssertionS S).ca := by
  obtain ⟨⟨hN, hS, hA, h38⟩, hX, hR, hC, hP, hL⟩ := h
  have m40 : S.sms.length < 40 := (hi.2.2.2.2.2.2.1.1 (by omega)).2.1
  have ha : S.ass.length < 40 := by have := hi.1.2.2.1; omega
  have n60 := hi.1.1
  obtain ⟨g1, a1, a2, a3, a4⟩ := c_start hA hi ha S.sms.length
  have k15 : KK (fun r => r ≠ 15) g1 (gA g1 15 (S.sms.length : Int) (rI g1 16 8)) := KK.a (by decide) KK.rf
  have hS1 := hS.kk a2 (by decide)
  have hX1 := hX.kk a2 (by decide)
  have hX2 := hX1.kk k15 (by decide)
  have hS2 : CS S (gA g1 15 (S.sms.length : Int) (rI g1 16 8)) := by
    obtain ⟨s1, s2⟩ := hS1
    refine ⟨s1, fun k s hks => ?_⟩
    have hlt : k < S.sms.length := lt_get hks
    obtain ⟨b1, b2, b3, b4, b5, b6⟩ := s2 k s hks
    refine ⟨b1, b2, b3, b4, b5, fun q => ⟨(b6 q).1, ?_⟩⟩
    show am_upd (g1.2.2.1 15) S.sms.length _ k = _
    rw [am_updN (by omega)]; exact (b6 q).2
  have hmv := c_mandV hS2 hX2 hi S.sms 20000 0 (rB (gA g1 15 (S.sms.length : Int) (rI g1 16 8)) 13 (S.sms.length : Int)) (by omega) (fun j s hj => by rw [Nat.zero_add]; exact hj) (by omega)
  have e13 : rB (gA g1 15 (S.sms.length : Int) (rI g1 16 8)) 13 (S.sms.length : Int) = S.cvs := by
    show g1.2.2.2 13 S.sms.length = _
    rw [(a2 13 (by decide)).2.2.2]; exact (hC.1 (by omega)).2.2.1
  rw [e13] at hmv
  have k14 : KK (fun r => r ≠ 14) (gA g1 15 (S.sms.length : Int) (rI g1 16 8)) (gB (gA g1 15 (S.sms.length : Int) (rI g1 16 8)) 14 (S.sms.length : Int) (Int64.ofNat 0)) := KK.b (by decide) KK.rf
  obtain ⟨g2, b1, b2, b3, b4⟩ := c_mandL hi (mvS S.hyps S.sms 0 S.cvs) m40 S.sms 20000 0 (Int64.ofNat 0) (gB (gA g1 15 (S.sms.length : Int) (rI g1 16 8)) 14 (S.sms.length : Int) (Int64.ofNat 0)) (by omega) (fun j s hj => by rw [Nat.zero_add]; exact hj) (by omega) (fun k s hks => ⟨(hS2.2 k s hks).2.1, (hS2.2 k s hks).2.2.2.2.1⟩) (hX2.kk k14 (by decide)) (updN_at _ _ _)
  have kk2 := (k15.mono (Q := fun r => r ≠ 14 ∧ r ≠ 15) (fun r hr => hr.2)).tr ((k14.mono (fun r hr => hr.1)).tr (b2.mono (fun r hr => hr.1)))
  have hpl := pairsOf_len (V := mvS S.hyps S.sms 0 S.cvs) (prs60 hi) n60
  have p40 : S.prs.length ≤ 40 := hi.1.2.2.2.2.1
  obtain ⟨c1, c2, c3, c4, c5, c6, c7, c8⟩ := a4.kk kk2 (by decide)
  obtain ⟨g3, d1, d2, d3⟩ := c_keepO S.nms.length S.ass.length (apOf S.prs) (mvS S.hyps S.sms 0 S.cvs) n60 ha (by omega) S.nms.length 20000 0 g2 (by omega) (by
      have : S.nms.length * (S.nms.length + 2) ≤ 60 * 62 := Nat.mul_le_mul n60 (by omega)
      omega) ((hN.kk a2 (by decide)).kk kk2 (by decide)).1 ((hX1.kk kk2 (by decide)).2.2.2.1) ⟨(a3.kk kk2 (by decide) (by decide)).1, c2, c3⟩
  have kall : KK (fun r => r ≠ 14 ∧ r ≠ 15 ∧ (r < 17 ∨ 24 < r)) g g3 := (a2.mono (fun r hr => hr.2.2)).tr ((kk2.mono (fun r hr => ⟨hr.1, hr.2.1⟩)).tr (d3.1.mono (fun r hr => by omega)))
  obtain ⟨q1, q2, q3⟩ := d2
  refine ⟨g3, ?_, kall, ⟨hN.kk kall (by decide), ?_, ⟨?_, ?_⟩, z38 h38 kall (by decide)⟩, ?_, ?_, ?_⟩
  · unfold f_Reader_beginAssertion_26
    rw [a1]
    show (if 0 ≤ (S.sms.length : Int) ∧ (S.sms.length : Int) < 40 then bd (f_Reader_mandatoryVariables_26 (S.sms.length : Int) (gA g1 15 (S.sms.length : Int) (rI g1 16 8))) fun r3 g3 => l_Reader_beginAssertion_26 20000 0 (S.sms.length : Int) r3 0 (gB g3 14 (S.sms.length : Int) (Int64.ofNat 0)) else none) = _
    have hmv' : f_Reader_mandatoryVariables_26 (S.sms.length : Int) (gA g1 15 (S.sms.length : Int) (rI g1 16 8)) = some (mvS S.hyps S.sms 0 S.cvs, gA g1 15 (S.sms.length : Int) (rI g1 16 8)) := by
      unfold f_Reader_mandatoryVariables_26
      rw [if_pos (by omega), e13]
      exact hmv
    rw [if_pos (by omega), bd_some hmv']
    have b1' : l_Reader_beginAssertion_26 20000 0 (S.sms.length : Int) (mvS S.hyps S.sms 0 S.cvs) 0 (gB (gA g1 15 (S.sms.length : Int) (rI g1 16 8)) 14 (S.sms.length : Int) (Int64.ofNat 0)) = _ := b1
    rw [b1']
    unfold f_Reader_keepPairs_26
    have d1' : l_Reader_keepPairs_26 20000 0 (mvS S.hyps S.sms 0 S.cvs) 0 0 0 g2 = some g3 := d1
    rw [d1']
    rfl
  · obtain ⟨s1, s2⟩ := hS2
    unfold CS rI at *
    rw [(kall 10 (by decide)).1, (kall 8 (by decide)).2.2.2, (kall 9 (by decide)).2.2.1, (kall 12 (by decide)).2.2.1, (kall 11 (by decide)).2.2.1, (kall 13 (by decide)).2.2.2]
    refine ⟨hS.1, fun k s hks => ?_⟩
    have hlt : k < S.sms.length := lt_get hks
    obtain ⟨x1, x2, x3, x4, x5, x6⟩ := hS.2 k s hks
    refine ⟨x1, x2, x3, x4, x5, fun q => ⟨?_, ?_⟩⟩
    · rw [(d3.1 14 (by decide)).2.2.2, b4 k (by omega)]
      show am_upd (g1.2.2.2 14) S.sms.length _ k = _
      rw [am_updN (by omega), (a2 14 (by decide)).2.2.2]
      exact (x6 q).1
    · rw [(d3.1 15 (by decide)).2.2.1, (b2 15 (by decide)).2.2.1]
      show am_upd (g1.2.2.1 15) S.sms.length _ k = _
      rw [am_updN (by omega), (a2 15 (by decide)).2.2.1]
      exact (x6 q).2
  · exact q1
  · intro j x hx
    have hlt : j < S.ass.length := lt_get hx
    obtain ⟨y1, y2, y3, y4, y5, y6, y7, y8⟩ := (a3.kk kk2 (by decide) (by decide)).2 j x hx
    have p40' : x.prs.length ≤ 40 := (hi.2.2.2.2.2.2.2.2.2 j x hx).1
    unfold AsAt
    rw [(d3.1 17 (by decide)).2.2.1, (d3.1 20 (by decide)).2.2.1, (d3.1 21 (by decide)).2.2.1, (d3.1 22 (by decide)).2.2.1, (d3.1 23 (by decide)).2.2.1, (d3.1 24 (by decide)).2.2.1]
    refine ⟨y1, (d3.2.1 j (by omega)).trans y2, fun u p hp => ?_, y4, y5, y6, y7, y8⟩
    have hu := lt_get hp
    rw [d3.2.2 _ (by omega)]
    exact y3 u p hp
  · rw [(d3.1 14 (by decide)).2.2.2]; exact b3
  · rw [(d3.1 15 (by decide)).2.2.1, (b2 15 (by decide)).2.2.1]
    show am_upd (g1.2.2.1 15) S.sms.length (rI g1 16 8) S.sms.length = _
    rw [updN_at]; exact a3.1
  · unfold AsAt
    rw [(d3.1 17 (by decide)).2.2.1, (d3.1 20 (by decide)).2.2.1, (d3.1 21 (by decide)).2.2.1, (d3.1 22 (by decide)).2.2.1, (d3.1 23 (by decide)).2.2.1, (d3.1 24 (by decide)).2.2.1]
    exact ⟨c1, q2, q3, c4, c5, c6, c7, c8⟩
