/-! ===== the class's steps: $d, and a statement that is declared ===== -/
theorem hsOf_succ (i : Nat) (x : Int64) : hsOf (i + 1) x = hsOf i x ++ (if tb x i = true then [i] else []) := by
  unfold hsOf
  rw [List.range_succ, List.filter_append]
  congr 1
  by_cases h : tb x i = true
  · rw [if_pos h]; simp [h]
  · rw [if_neg h]; simp [h]
theorem hsOf_mono (x : Int64) (i : Nat) : ∀ d, (hsOf i x).length ≤ (hsOf (i + d) x).length := by
  intro d
  induction d with
  | zero => exact Nat.le_refl _
  | succ d ih =>
    rw [show i + (d + 1) = (i + d) + 1 by omega, hsOf_succ, List.length_append]
    omega
theorem c_apartL {S : RSt} (hi : Iv S) (u : Nat) (hu : u < 60) (hlen : S.prs.length + (hsOf S.nms.length S.tv).length ≤ 40) : ∀ (k m i : Nat) (g : G2), i + k = S.nms.length → k < m → rI g 3 3 = (S.nms.length : Int) → rJ g 25 8 = S.tv → PX (S.prs ++ (hsOf i S.tv).map (fun o => (o, u))) g →
    ∃ g', l_Reader_takeApart_26 m 0 (u : Int) (i : Int) g = some (0, (gI (gJ g' 25 8 (S.tv ||| bit u)) 25 7 (rI g 25 7 + 1))) ∧ PX (S.prs ++ (hsOf S.nms.length S.tv).map (fun o => (o, u))) g' ∧ SX g g' := by
  have i0 := hi.1.1
  intro k
  induction k with
  | zero =>
    intro m i g hi' hm h3 h8 hP
    obtain ⟨m, rfl⟩ : ∃ m', m = m' + 1 := ⟨m - 1, by omega⟩
    have e : i = S.nms.length := by omega
    subst e
    refine ⟨g, ?_, hP, SX.rf⟩
    rw [s_Reader_takeApart_26_0]
    unfold b_Reader_takeApart_26_0
    rw [if_pos (by omega), if_pos (by omega), if_neg (by omega), h8]
  | succ k ih =>
    intro m i g hi' hm h3 h8 hP
    obtain ⟨m, rfl⟩ : ∃ m', m = m' + 1 := ⟨m - 1, by omega⟩
    rw [s_Reader_takeApart_26_0]
    unfold b_Reader_takeApart_26_0
    rw [if_pos (by omega), if_pos (by omega), if_pos (by omega), h8]
    by_cases hb : tb S.tv i = true
    · rw [if_neg (by rw [tb_t (by omega)]; simpa using hb)]
      have hmono := hsOf_mono S.tv (i + 1) k
      rw [show i + 1 + k = S.nms.length by omega, hsOf_succ, if_pos hb, List.length_append] at hmono
      simp only [List.length_cons, List.length_nil] at hmono
      obtain ⟨g1, a1, a2, a3, a4⟩ := c_addPair hP (by rw [List.length_append, List.length_map]; omega) (show i < 60 by omega) hu
      have k3 : rI g1 3 3 = (S.nms.length : Int) := by rw [show rI g1 3 3 = rI g 3 3 from congrFun (a3.1 3 (by decide)).1 3]; exact h3
      have k25 : rI g1 25 7 = rI g 25 7 := congrFun (a3.1 25 (by decide)).1 7
      have k8 : rJ g1 25 8 = S.tv := by rw [show rJ g1 25 8 = rJ g 25 8 from congrFun (a3.1 25 (by decide)).2.1 8]; exact h8
      obtain ⟨g', b1, b2, b3⟩ := ih m (i + 1) g1 (by omega) (by omega) k3 k8 (by rw [hsOf_succ, if_pos hb, List.map_append, ← List.append_assoc]; exact a2)
      refine ⟨g', ?_, b2, a3.tr b3⟩
      rw [a1]
      rw [k25] at b1
      exact b1
    · rw [if_pos (by rw [tb_t (by omega)]; exact hb)]
      exact ih m (i + 1) g (by omega) (by omega) h3 h8 (by rw [hsOf_succ, if_neg hb, List.append_nil]; exact hP)
theorem c_takeApart {S : RSt} {g : G2} (h : CRep S g) (hi : Iv S) (hs : S.stage = 3) (c : Int64) : OutC S (f_Reader_takeApart_26 (fnd S c) g) (takeApartS S (fnd S c)) := by
  obtain ⟨⟨hN, hS, hA, h38⟩, hX, hR, hC, hP, hL⟩ := h
  have i0 := hi.1.1
  have ip : S.prs.length ≤ 40 := hi.1.2.2.2.2.1
  obtain ⟨t1, t2, t3, t4⟩ := hi.2.2.2.2.2.1.2.2.1 hs
  obtain ⟨r1, r2⟩ := hR
  obtain ⟨r3, r4⟩ := r2 (by omega) (by omega)
  have x4 := hX.2.1
  unfold f_Reader_takeApart_26 takeApartS
  rw [bd_some (c_mean hN hX hi c)]
  rcases mean_cases S c with q | ⟨u, x, q1, q2, q3, ⟨q4, q5⟩ | ⟨q4, q5, q6⟩⟩
  · rw [q, if_pos (by decide), if_neg (by decide), if_pos rfl, if_pos (by decide), if_pos rfl]
    exact ⟨g, rfl, ⟨hN, hS, hA, h38⟩, by decide, by decide⟩
  · rw [q4, if_pos (by decide), if_neg (by decide), if_neg (by decide), if_pos (by decide), if_neg (by decide)]
    exact ⟨g, rfl, ⟨hN, hS, hA, h38⟩, by decide, by decide⟩
  · rw [q4, if_pos (by decide), if_pos rfl, if_neg (show ¬ (1 : Int) ≠ 1 by decide), q1, Int.toNat_natCast, r4]
    by_cases hb : tb S.tv u = true
    · rw [if_neg (by rw [tb_t (by omega)]; simpa using hb), if_pos hb]
      exact ⟨g, rfl, ⟨hN, hS, hA, h38⟩, by decide, by decide⟩
    · rw [if_pos (by rw [tb_t (by omega)]; exact hb), if_neg hb, if_pos (by omega)]
      by_cases h40 : 40 < S.prs.length + S.taken
      · rw [if_pos (by omega), if_pos h40]
        exact ⟨g, rfl, ⟨hN, hS, hA, h38⟩, by decide, by decide⟩
      · rw [if_neg (by omega), if_neg h40]
        obtain ⟨g', b1, b2, b3, b4, b5⟩ := c_apartL hi u (by omega) (by omega) S.nms.length 20000 0 g (by omega) (by omega) hN.1 r4 (by
          have e : hsOf 0 S.tv = [] := rfl
          rw [e, List.map_nil, List.append_nil]; exact hX.px)
        obtain ⟨⟨x1, x2, x3⟩, _, _, _, x7, x8⟩ := hX
        obtain ⟨p1, p2, p3⟩ := b2
        have hN' := hN.kk b3 (by decide)
        have hS' := hS.kk b3 (by decide)
        have hA' := hA.kk b3 (by decide) (by decide)
        have h38' := z38 h38 b3 (by decide)
        have hC' := hC.kk b3 (by decide) (by decide)
        have hP' := hP.kk b3 (by decide)
        have hL' := hL.kk b3 (by decide)
        refine ⟨_, b1, ⟨hN', hS', hA', h38'⟩, ⟨⟨?_, ?_, ?_⟩, p1, p2, p3, b5.trans x7, ?_⟩, ⟨?_, fun _ _ => ⟨?_, rfl⟩⟩, hC', hP', hL'⟩
        · show g'.2.1 26 0 = _
          rw [b4]; exact x1
        · show g'.2.1 26 1 = _
          rw [b4]; exact x2
        · show g'.2.1 26 2 = _
          rw [b4]; exact x3
        · intro t o ho
          show g'.2.2.2 29 t = _ ∧ g'.2.2.2 30 t = _ ∧ g'.2.2.2 31 t = _ ∧ g'.2.2.1 32 t = _
          rw [(b3 29 (by decide)).2.2.2, (b3 30 (by decide)).2.2.2, (b3 31 (by decide)).2.2.2, (b3 32 (by decide)).2.2.1]
          exact x8 t o ho
        · show g'.1 25 6 = _
          rw [(b3 25 (by decide)).1]; exact r1
        · show rI g 25 7 + 1 = _
          rw [r3]; exact nat1 _
theorem c_isHypo {S : RSt} {g : G2} (k : Nat) (v : Nat) (hk : k < 40) (h9 : g.2.2.1 9 k = (v : Int)) (hv : v ≤ 3) : f_Statements_isHypothesis_8 (k : Int) g = some ((if v ≤ 1 then 1 else 0), g) := by
  unfold f_Statements_isHypothesis_8
  have e : rA g 9 ((k : Nat) : Int) = (v : Int) := h9
  rw [if_pos (by omega), e, if_pos (by omega)]
  by_cases h0 : v = 0
  · rw [if_pos (by omega), if_pos (by omega)]
  · rw [if_neg (by omega)]
    by_cases h1 : v = 1
    · rw [if_pos (by omega), if_pos (by omega)]
    · rw [if_neg (by omega), if_neg (by omega)]
/-- declaring needs no more of the state than this -/
theorem c_declare' {S : RSt} {g : G2} (hK : CK S g) (hX : CX S g) (hC : CC S g) (n60 : S.nms.length < 60) (m40 : S.sms.length < 40) (hst : 4 ≤ S.stage) (hk9 : g.2.2.1 9 S.sms.length = (S.ckind : Int)) (hk3 : S.ckind ≤ 3) (hc14 : 2 ≤ S.ckind → g.2.2.2 14 S.sms.length = S.cmand ∧ g.2.2.1 15 S.sms.length = (S.ass.length : Int) ∧ AsAt g S.ass.length S.ca) : OutC S (f_Reader_declare_26 g) (declareS S) := by
  obtain ⟨hN, hS, hA, h38⟩ := hK
  obtain ⟨n1, n2, n3, n4⟩ := hN
  obtain ⟨s1, s2⟩ := hS
  obtain ⟨a1, a2⟩ := hA
  obtain ⟨⟨x1, x2, x3⟩, x4⟩ := hX
  obtain ⟨c1, c2, c3, c4⟩ := hC.1 hst
  have e : (rI g 10 4).toNat = S.sms.length := by rw [s1, Int.toNat_natCast]
  have e8 : rB g 8 (rI g 10 4) = S.clab := by show g.2.2.2 8 (rI g 10 4).toNat = _; rw [e]; exact c1
  have en : (rI g 3 3).toNat = S.nms.length := by rw [n1, Int.toNat_natCast]
  have e13 : ∀ g' : G2, g'.2.2.2 13 = g.2.2.2 13 → rB g' 13 (rI g 10 4) = S.cvs := fun g' h => by show g'.2.2.2 13 (rI g 10 4).toNat = _; rw [e, h]; exact c3
  unfold f_Reader_declare_26 declareS
  rw [if_pos (by omega), e8]
  have hadd : f_Names_add_4 S.clab 2 g = some ((rI g 3 3), (gI (gA (gB g 4 (rI g 3 3) S.clab) 5 (rI g 3 3) 2) 3 3 ((rI g 3 3) + 1))) := by
    unfold f_Names_add_4
    rw [if_pos (by omega), if_pos (by decide), if_neg (by decide), if_neg (by decide)]
  rw [bd_some hadd, if_pos (by omega)]
  have hy : f_Statements_isHypothesis_8 (rI g 10 4) (gA (gI (gA (gB g 4 (rI g 3 3) S.clab) 5 (rI g 3 3) 2) 3 3 ((rI g 3 3) + 1)) 6 (rI g 3 3) (rI g 10 4)) = some ((if S.ckind ≤ 1 then 1 else 0), (gA (gI (gA (gB g 4 (rI g 3 3) S.clab) 5 (rI g 3 3) 2) 3 3 ((rI g 3 3) + 1)) 6 (rI g 3 3) (rI g 10 4))) := by
    rw [s1]
    exact c_isHypo (S := S) S.sms.length S.ckind m40 hk9 hk3
  rw [bd_some hy]
  have e9 : rA (gA (gI (gA (gB g 4 (rI g 3 3) S.clab) 5 (rI g 3 3) 2) 3 3 ((rI g 3 3) + 1)) 6 (rI g 3 3) (rI g 10 4)) 9 (rI g 10 4) = (S.ckind : Int) := by
    show g.2.2.1 9 (rI g 10 4).toNat = _
    rw [e]; exact hk9
  rw [e9]
  have nmx : ∀ (i : Nat) (x : RNm), (S.nms ++ [(S.clab, 2, S.sms.length)])[i]? = some x → am_upd (g.2.2.2 4) (rI g 3 3).toNat S.clab i = x.code ∧ am_upd (g.2.2.1 5) (rI g 3 3).toNat 2 i = (x.role : Int) ∧ (x.role = 2 → am_upd (g.2.2.1 6) (rI g 3 3).toNat (rI g 10 4) i = (x.lst : Int)) := by
    intro i x hx
    rw [en]
    rcases ap_get hx with ⟨b1, b2⟩ | ⟨b1, b2⟩
    · rw [am_updN (by omega), am_updN (by omega), am_updN (by omega)]; exact n4 i x b2
    · subst b1; subst b2
      rw [updN_at, updN_at, updN_at]; exact ⟨rfl, rfl, fun _ => s1⟩
  have smx : ∀ (k : Nat) (s : RSm), (S.sms ++ [(S.clab, S.ckind, S.crow, S.cvs, S.cmand, S.ass.length)])[k]? = some s → g.2.2.2 8 k = s.lab ∧ g.2.2.1 9 k = (s.kind : Int) ∧ g.2.2.1 12 k = (s.row.length : Int) ∧ RowAt (g.2.2.1 11) (24 * k) s.row ∧ g.2.2.2 13 k = s.vs ∧ (2 ≤ s.kind → g.2.2.2 14 k = s.mand ∧ g.2.2.1 15 k = (s.asn : Int)) := by
    intro k s hks
    rcases ap_get hks with ⟨b1, b2⟩ | ⟨b1, b2⟩
    · exact s2 k s b2
    · subst b1; subst b2
      exact ⟨c1, hk9, c2, c4, c3, fun q => ⟨(hc14 q).1, (hc14 q).2.1⟩⟩
  have n33 : rI g 3 3 + 1 = (((S.nms ++ [(S.clab, 2, S.sms.length)]).length : Nat) : Int) := by rw [n1]; exact len1 _ _
  have m33 : rI g 10 4 + 1 = (((S.sms ++ [(S.clab, S.ckind, S.crow, S.cvs, S.cmand, S.ass.length)]).length : Nat) : Int) := by rw [s1]; exact len1 _ _
  have no : ∀ {P : Prop} {n : Nat}, 1 ≤ n → n ≤ (0 : Nat) → P := fun h1 h2 => absurd h1 (by omega)
  by_cases hk : S.ckind ≤ 1
  · rw [if_pos hk, if_pos (by decide), if_neg (by decide), if_pos (by omega)]
    by_cases h0 : S.ckind = 0
    · rw [if_pos (by omega), if_pos hk, if_pos hk, if_pos h0]
      refine ⟨_, rfl, ⟨⟨n33, n2, n3, nmx⟩, ⟨m33, smx⟩, ⟨a1, a2⟩, h38⟩, ⟨⟨x1, ?_, ?_⟩, x4⟩, ⟨rfl, fun q _ => no q (Nat.le_refl 0)⟩, ⟨fun q => no (by decide) q, fun q => no (by decide) q, fun q => no (by decide) q⟩, fun q => no (by decide) q, fun q => no (by decide) q⟩
      · show rJ g 26 1 ||| rB g 13 (rI g 10 4) = _
        rw [x2, e13 g rfl]
      · show rJ g 26 2 ||| am_shl (Int64.ofNat 1) (rI g 10 4) = _
        rw [x3, s1]
    · rw [if_neg (by omega), if_pos hk, if_pos hk, if_neg h0]
      refine ⟨_, rfl, ⟨⟨n33, n2, n3, nmx⟩, ⟨m33, smx⟩, ⟨a1, a2⟩, h38⟩, ⟨⟨x1, x2, ?_⟩, x4⟩, ⟨rfl, fun q _ => no q (Nat.le_refl 0)⟩, ⟨fun q => no (by decide) q, fun q => no (by decide) q, fun q => no (by decide) q⟩, fun q => no (by decide) q, fun q => no (by decide) q⟩
      show rJ g 26 2 ||| am_shl (Int64.ofNat 1) (rI g 10 4) = _
      rw [x3, s1]
  · rw [if_neg hk, if_pos (by decide), if_pos (by decide), if_pos (by omega), if_neg (by omega), if_neg hk, if_neg hk, if_neg (by omega)]
    refine ⟨_, rfl, ⟨⟨n33, n2, n3, nmx⟩, ⟨m33, smx⟩, ⟨?_, ?_⟩, h38⟩, ⟨⟨x1, x2, x3⟩, x4⟩, ⟨rfl, fun q _ => no q (Nat.le_refl 0)⟩, ⟨fun q => no (by decide) q, fun q => no (by decide) q, fun q => no (by decide) q⟩, fun q => no (by decide) q, fun q => no (by decide) q⟩
    · show rI g 16 8 + 1 = _
      rw [a1]; exact len1 _ _
    · intro j x hx
      rcases ap_get hx with ⟨b1, b2⟩ | ⟨b1, b2⟩
      · exact a2 j x b2
      · subst b1; subst b2
        exact (hc14 (by omega)).2.2
theorem c_declare {S : RSt} {g : G2} (hK : CK S g) (hX : CX S g) (hC : CC S g) (hi : Iv S) (hst : 4 ≤ S.stage) (hk9 : g.2.2.1 9 S.sms.length = (S.ckind : Int)) (hk3 : S.ckind ≤ 3) (hc14 : 2 ≤ S.ckind → g.2.2.2 14 S.sms.length = S.cmand ∧ g.2.2.1 15 S.sms.length = (S.ass.length : Int) ∧ AsAt g S.ass.length S.ca) : OutC S (f_Reader_declare_26 g) (declareS S) := c_declare' hK hX hC (hi.2.2.2.2.2.2.1.1 hst).1 (hi.2.2.2.2.2.2.1.1 hst).2.1 hst hk9 hk3 hc14
theorem c_beginNames {S : RSt} {g : G2} (h : CRep S g) (hs : S.stage = 0) (k : Nat) (hk : k ≤ 3) : OutC S (f_Reader_beginNames_26 (k : Int) g) (beginNamesS S k) := by
  obtain ⟨hK, hX, hR, hC, hP, hL⟩ := h
  exact ⟨_, rfl, hK, hX, ⟨rfl, fun _ _ => ⟨rfl, rfl⟩⟩, ⟨fun q => absurd q (by show ¬ (4 ≤ k); omega), fun q => absurd q (by show ¬ (5 ≤ k); omega), fun q => absurd q (by show ¬ (10 ≤ k); omega)⟩, fun q => absurd q (by show ¬ (10 ≤ k); omega), fun q => absurd q (by show ¬ (12 ≤ k); omega)⟩
theorem c_endNames {S : RSt} {g : G2} (h : CRep S g) (hi : Iv S) (hs : 1 ≤ S.stage ∧ S.stage ≤ 3) (k : Int) (hk : ir k) : OutC S (f_Reader_endNames_26 k g) (endNamesS S k) := by
  obtain ⟨hK, hX, ⟨r1, r2⟩, hC, hP, hL⟩ := h
  obtain ⟨r3, r4⟩ := r2 hs.1 hs.2
  have ht : S.taken ≤ 100 := by
    obtain ⟨i1, i2, i3, _⟩ := hi.2.2.2.2.2.1
    have n60 := hi.1.1
    have p40 : S.prs.length ≤ 40 := hi.1.2.2.2.2.1
    have hc := cnt_le (tb S.vars) 64
    rcases Nat.lt_or_ge S.stage 2 with q | q
    · have := i1 (by omega); omega
    · rcases Nat.lt_or_ge S.stage 3 with q2 | q2
      · have := i2 (by omega); omega
      · have := (i3 (by omega)).1; omega
  have fin : CRep (S.uStage 0) (gI g 25 6 0) := ⟨hK, hX, ⟨rfl, fun q _ => absurd q (by show ¬ (1 ≤ 0); decide)⟩, ⟨fun q => absurd q (by show ¬ (4 ≤ 0); decide), fun q => absurd q (by show ¬ (5 ≤ 0); decide), fun q => absurd q (by show ¬ (10 ≤ 0); decide)⟩, fun q => absurd q (by show ¬ (10 ≤ 0); decide), fun q => absurd q (by show ¬ (12 ≤ 0); decide)⟩
  unfold f_Reader_endNames_26 endNamesS
  rw [if_pos (by omega)]
  by_cases h3 : S.stage = 3
  · rw [if_pos (by omega), if_pos hk, if_pos h3]
    by_cases h46 : k = 46
    · rw [if_pos h46, if_pos (by omega)]
      by_cases ht2 : S.taken < 2
      · rw [if_pos (by omega), if_pos (Or.inr ht2)]
        exact ⟨g, rfl, hK, by decide, by decide⟩
      · rw [if_neg (by omega), if_neg (by omega)]
        exact ⟨_, rfl, fin⟩
    · rw [if_neg h46, if_pos (Or.inl h46)]
      exact ⟨g, rfl, hK, by decide, by decide⟩
  · rw [if_neg (by omega), if_pos hk, if_neg h3]
    by_cases h46 : k = 46
    · rw [if_pos h46, if_pos (by omega)]
      by_cases ht2 : S.taken < 1
      · rw [if_pos (by omega), if_pos (Or.inr ht2)]
        exact ⟨g, rfl, hK, by decide, by decide⟩
      · rw [if_neg (by omega), if_neg (by omega)]
        exact ⟨_, rfl, fin⟩
    · rw [if_neg h46, if_pos (Or.inl h46)]
      exact ⟨g, rfl, hK, by decide, by decide⟩
theorem OutC.bd {S : RSt} {o : Option (Int × G2)} {r : RS} (h : OutC S o r) : OutC S (bd o fun r g => some (r, g)) r := by
  cases r with
  | error f => obtain ⟨g', a1, a2⟩ := h; exact ⟨g', by rw [a1]; rfl, a2⟩
  | ok S' => obtain ⟨g', a1, a2⟩ := h; exact ⟨g', by rw [a1]; rfl, a2⟩
theorem c_unlabelled {S : RSt} {g : G2} (h : CRep S g) (hi : Iv S) (hs : S.stage = 0) (k : Int) (hk : ir k) : OutC S (f_Reader_beginUnlabelled_26 k g) (unlabelledS S k) := by
  have i6 : S.out.length ≤ 6 := hi.1.2.2.2.1
  have x7 : rI g 26 6 = (S.out.length : Int) := h.2.1.2.2.2.2.1
  unfold f_Reader_beginUnlabelled_26 unlabelledS
  rw [if_pos hk]
  by_cases h1 : k = 99
  · rw [if_pos h1, if_pos h1, if_pos (by omega)]
    by_cases q : 0 < S.out.length
    · rw [if_pos (by omega), if_pos q]
      exact ⟨g, rfl, h.1, by decide, by decide⟩
    · rw [if_neg (by omega), if_neg q]
      exact (c_beginNames h hs 1 (by decide)).bd
  · rw [if_neg h1, if_neg h1]
    by_cases h2 : k = 100
    · rw [if_pos h2, if_pos h2]; exact (c_beginNames h hs 3 (by decide)).bd
    · rw [if_neg h2, if_neg h2]
      by_cases h3 : k = 118
      · rw [if_pos h3, if_pos h3]; exact (c_beginNames h hs 2 (by decide)).bd
      · rw [if_neg h3, if_neg h3]
        by_cases h4 : k = 123
        · rw [if_pos h4, if_pos h4]; exact (c_openScope h hi hs).bd
        · rw [if_neg h4, if_neg h4]
          by_cases h5 : k = 125
          · rw [if_pos h5, if_pos h5]; exact (c_closeScope h hi hs).bd
          · rw [if_neg h5, if_neg h5]
            exact ⟨g, rfl, h.1, by decide, by decide⟩
