/-! ===== the class's steps: a proof's labels ===== -/
theorem kind_get {S : RSt} {k : Nat} {s : RSm} (h : S.sms[k]? = some s) : kindS S k = s.kind := by unfold kindS; rw [h]; rfl
theorem row_get {S : RSt} {k : Nat} {s : RSm} (h : S.sms[k]? = some s) : rowS S k = s.row := by unfold rowS; rw [h]; rfl
def oI : Option Nat → Int
  | none => -1
  | some k => (k : Int)
theorem c_findUsable {S : RSt} {g : G2} (hN : CN S g) (hS : CS S g) (hX : CX S g) (hi : Iv S) (c : Int64) : f_Reader_findUsable_26 c g = some (oI (usableS S c), g) ∧ ∀ k, usableS S c = some k → k < S.sms.length := by
  have i0 := hi.1.1
  have m40 : S.sms.length ≤ 40 := hi.1.2.1
  rcases fnd_cases S c with q | ⟨u, x, q1, q2, q3, q4⟩
  · have hu : usableS S c = none := by unfold usableS; rw [if_pos q]
    rw [hu]
    refine ⟨?_, fun k hk => by cases hk⟩
    unfold f_Reader_findUsable_26
    rw [bd_some (c_find hN i0 c), q]; rfl
  · have e5 : rA g 5 ((u : Nat) : Int) = (x.role : Int) := (hN.2.2.2 u x q3).2.1
    obtain ⟨r2, r3⟩ := hi.2.1 u x q3
    have hu : usableS S c = (if x.role ≠ 2 then none else if kindS S x.lst ≤ 1 ∧ tb S.hyps x.lst = false then none else some x.lst) := by
      unfold usableS
      rw [q1, if_neg (by omega), Int.toNat_natCast, q3]
    rw [hu]
    unfold f_Reader_findUsable_26
    rw [bd_some (c_find hN i0 c), q1, if_pos (by omega), if_neg (by omega), if_pos (by omega), e5, if_pos (by omega)]
    by_cases hr : x.role = 2
    · have e6 : rA g 6 ((u : Nat) : Int) = (x.lst : Int) := (hN.2.2.2 u x q3).2.2 hr
      have hl := r3 hr
      obtain ⟨s, hs⟩ := ex_get hl
      have k3 := (hi.2.2.1 _ s hs).1
      have hy := c_isHypo (S := S) (g := g) x.lst s.kind (by omega) (hS.2 _ s hs).2.1 k3
      rw [if_neg (show ¬ (x.role ≠ 2) from fun z => z hr), if_pos (by omega), e6, bd_some hy, kind_get hs]
      by_cases hk : s.kind ≤ 1
      · rw [if_pos hk, if_pos (by decide), if_neg (by decide), bd_some (c_isHyp hX (by omega))]
        cases hb : tb S.hyps x.lst with
        | true =>
          rw [if_pos (by decide), if_neg (by decide), if_neg (show ¬ (s.kind ≤ 1 ∧ true = false) by simp)]
          exact ⟨rfl, fun k hk2 => by injection hk2 with e; omega⟩
        | false =>
          rw [if_pos (by decide), if_pos (by decide), if_pos (show s.kind ≤ 1 ∧ false = false from ⟨hk, rfl⟩)]
          exact ⟨rfl, fun k hk2 => by cases hk2⟩
      · rw [if_neg hk, if_pos (by decide), if_pos rfl, if_neg (show ¬ (s.kind ≤ 1 ∧ tb S.hyps x.lst = false) from fun z => hk z.1)]
        exact ⟨rfl, fun k hk2 => by injection hk2 with e; omega⟩
    · rw [if_neg (by omega), if_pos hr]
      exact ⟨rfl, fun k hk2 => by cases hk2⟩
theorem c_isMand {S : RSt} {g : G2} (k i : Nat) (x : Int64) (hk : k < 40) (hi : i < 64) (h : g.2.2.2 14 k = x) : f_Statements_isMandatory_8 (k : Int) (i : Int) g = some (b01 (tb x i), g) := by
  rw [e_isMand g k i hk hi, h]
theorem c_gap {S : RSt} {g : G2} (h : CRep S g) (hi : Iv S) (hs : 10 ≤ S.stage) : ∃ g', f_Proof_leaveGap_34 g = some g' ∧ CRep (gapS S) g' := by
  obtain ⟨⟨hN, hS, hA, h38⟩, hX, hR, hC, hP, hL⟩ := h
  have m40 : S.sms.length < 40 := (hi.2.2.2.2.2.2.1.1 (by omega)).2.1
  have ha : S.ass.length < 40 := by have := hi.1.2.2.1; omega
  obtain ⟨a1, a2⟩ := hA
  have e : (rI g 16 8).toNat = S.ass.length := by rw [a1, Int.toNat_natCast]
  refine ⟨gA (gA (gI g 33 7 1) 23 (rI g 16 8) 1) 24 (rI g 16 8) 0, ?_, ⟨hN, hS, ⟨a1, fun j x hx => ?_⟩, h38⟩, hX, hR, ⟨hC.1, hC.2.1, fun _ => ⟨(hC.2.2 hs).1, (hC.2.2 hs).2.1, ?_⟩⟩, fun _ => ⟨(hP hs).1, (hP hs).2.1, rfl⟩, hL⟩
  · unfold f_Proof_leaveGap_34 f_Assertions_noteGap_17
    have a1' : rI (gI g 33 7 1) 16 8 = (S.ass.length : Int) := a1
    rw [if_pos (by omega)]
    rfl
  · have hlt : j < S.ass.length := lt_get hx
    obtain ⟨y1, y2, y3, y4, y5, y6, y7, y8⟩ := a2 j x hx
    refine ⟨y1, y2, y3, y4, y5, y6, ?_, ?_⟩
    · show am_upd (g.2.2.1 23) (rI g 16 8).toNat _ j = _
      rw [e, am_updN (by omega)]; exact y7
    · show am_upd (g.2.2.1 24) (rI g 16 8).toNat _ j = _
      rw [e, am_updN (by omega)]; exact y8
  · obtain ⟨y1, y2, y3, y4, y5, y6, y7, y8⟩ := (hC.2.2 hs).2.2
    refine ⟨y1, y2, y3, y4, y5, y6, ?_, ?_⟩
    · show am_upd (g.2.2.1 23) (rI g 16 8).toNat _ S.ass.length = _
      rw [e, updN_at]; rfl
    · show am_upd (g.2.2.1 24) (rI g 16 8).toNat _ S.ass.length = _
      rw [e, updN_at]; rfl
theorem c_lettersB {S : RSt} (k : Nat) (x : Int64) (hk : k < 40) : ∀ (q m i : Nat) (g : G2), i + q = k → q < m → g.2.2.2 14 k = x → rI g 43 3 = ((hsOf i x).length : Int) → (∀ (j v : Nat), (hsOf i x)[j]? = some v → g.2.2.1 44 j = (v : Int)) →
    ∃ g', l_Letters_begin_44 m 0 (k : Int) (i : Int) g = some g' ∧ KK (fun r => r ≠ 43 ∧ r ≠ 44 ∧ r ≠ 45) g g' ∧ rI g' 43 3 = ((hsOf k x).length : Int) ∧ (∀ (j v : Nat), (hsOf k x)[j]? = some v → g'.2.2.1 44 j = (v : Int)) ∧ rI g' 43 4 = 0 ∧ rI g' 45 4 = 0 ∧ rI g' 43 6 = 0 ∧ rI g' 43 8 = 0 ∧ rI g' 43 9 = 0 := by
  intro q
  induction q with
  | zero =>
    intro m i g hi hm h14 h3 h44
    obtain ⟨m, rfl⟩ : ∃ m', m = m' + 1 := ⟨m - 1, by omega⟩
    have e : i = k := by omega
    subst e
    refine ⟨gI (gI (gI (gI (gI g 43 4 0) 45 4 0) 43 6 0) 43 8 0) 43 9 0, ?_, KK.i (by decide) (KK.i (by decide) (KK.i (by decide) (KK.i (by decide) (KK.i (by decide) KK.rf)))), h3, h44, rfl, rfl, rfl, rfl, rfl⟩
    rw [s_Letters_begin_44_0]
    unfold b_Letters_begin_44_0
    rw [if_pos (by omega), if_pos (by omega), if_neg (by omega)]
  | succ q ih =>
    intro m i g hi hm h14 h3 h44
    obtain ⟨m, rfl⟩ : ∃ m', m = m' + 1 := ⟨m - 1, by omega⟩
    rw [s_Letters_begin_44_0]
    unfold b_Letters_begin_44_0
    rw [if_pos (by omega), if_pos (by omega), if_pos (by omega), bd_some (c_isMand (S := S) k i x hk (by omega) h14)]
    have hle : (hsOf i x).length ≤ i := by
      unfold hsOf
      exact Nat.le_trans (List.length_filter_le _ _) (by simp)
    cases hb : tb x i with
    | false =>
      rw [if_pos (by decide), if_pos (by decide)]
      have e : hsOf (i + 1) x = hsOf i x := by rw [hsOf_succ, hb]; simp
      exact ih m (i + 1) g (by omega) (by omega) h14 (by rw [e]; exact h3) (by rw [e]; exact h44)
    | true =>
      rw [if_pos (by decide), if_neg (by decide), if_pos (by omega)]
      have e : hsOf (i + 1) x = hsOf i x ++ [i] := by rw [hsOf_succ, hb]; simp
      have en : (rI g 43 3).toNat = (hsOf i x).length := by rw [h3, Int.toNat_natCast]
      obtain ⟨g', b1, b2, b3⟩ := ih m (i + 1) (gI (gA g 44 (rI g 43 3) (i : Int)) 43 3 ((rI g 43 3) + 1)) (by omega) (by omega) h14 (by
          show rI g 43 3 + 1 = _
          rw [h3, e]; simp) (fun j v hj => by
          show am_upd (g.2.2.1 44) (rI g 43 3).toNat _ j = _
          rw [en]
          rw [e] at hj
          rcases ap_get hj with ⟨a1, a2⟩ | ⟨a1, a2⟩
          · rw [am_updN (by omega)]; exact h44 j v a2
          · subst a1; subst a2; rw [updN_at])
      exact ⟨g', b1, (KK.i (by decide) (KK.a (by decide) KK.rf)).tr b2, b3⟩
theorem c_takeListed {S : RSt} {g : G2} (h : CRep S g) (hi : Iv S) (hs : S.stage = 12) (c : Int64) : OutC S (f_Reader_takeListed_26 c g) (takeListedS S c) := by
  have h' := h
  obtain ⟨⟨hN, hS, hA, h38⟩, hX, hR, hC, hP, hL⟩ := h
  have m40 : S.sms.length < 40 := (hi.2.2.2.2.2.2.1.1 (by omega)).2.1
  unfold f_Reader_takeListed_26 takeListedS
  by_cases h41 : c = Int64.ofNat 41
  · rw [if_pos h41, if_pos h41]
    exact ⟨gI g 25 6 13, rfl, ⟨hN, hS, hA, h38⟩, hX, ⟨rfl, fun _ z => absurd z (by show ¬ (13 ≤ 3); decide)⟩, ⟨fun _ => hC.1 (by omega), fun _ => hC.2.1 (by omega), fun _ => hC.2.2 (by omega)⟩, fun _ => hP (by omega), fun _ => hL (by omega)⟩
  · obtain ⟨f1, f2⟩ := c_findUsable hN hS hX hi c
    rw [if_neg h41, if_neg h41, bd_some f1]
    cases hu : usableS S c with
    | none => exact ⟨g, rfl, ⟨hN, hS, hA, h38⟩, by decide, by decide⟩
    | some k =>
      have hk := f2 k hu
      show OutC S (if ir (k : Int) then if (k : Int) = -1 then some (-8, g) else bd (f_Statements_isMandatory_8 (rI g 10 4) (k : Int) g) fun r5 g5 => if ir r5 then if r5 = 0 then bd (f_Letters_addListed_44 (k : Int) g5) fun r8 g8 => some (r8, g8) else some (-8, g5) else none else none) (if tb S.cmand k = true then .error (-8) else if 20 ≤ S.lstd then .error (-7) else .ok ((S.uRefs (S.refs ++ [k])).uLstd (S.lstd + 1)))
      have hc14 := (hC.2.2 (by omega)).1
      rw [if_pos (by omega), if_neg (by omega), hS.1, bd_some (c_isMand (S := S) S.sms.length k S.cmand m40 (by omega) hc14)]
      cases hb : tb S.cmand k with
      | true =>
        rw [if_pos (by decide), if_neg (by decide), if_pos rfl]
        exact ⟨g, rfl, ⟨hN, hS, hA, h38⟩, by decide, by decide⟩
      | false =>
        rw [if_pos (by decide), if_pos (by decide), if_neg (by decide)]
        obtain ⟨l1, l2, l3, l4, l5, l6, l7, l8, l9⟩ := hL (by omega)
        obtain ⟨j1, _, j2, _⟩ := hi.2.2.2.2.2.2.2.2.1 (by omega)
        have hle : (hsOf S.sms.length S.cmand).length ≤ S.sms.length := by
          unfold hsOf
          exact Nat.le_trans (List.length_filter_le _ _) (by simp)
        unfold f_Letters_addListed_44
        rw [if_pos (by omega)]
        by_cases h20 : 20 ≤ S.lstd
        · rw [if_neg (by omega), if_pos h20]
          exact ⟨g, rfl, ⟨hN, hS, hA, h38⟩, by decide, by decide⟩
        · rw [if_pos (by omega), if_neg h20, if_pos (by omega)]
          have en : (rI g 43 3).toNat = S.refs.length := by rw [l1, Int.toNat_natCast]
          refine ⟨_, rfl, ⟨hN, hS, hA, h38⟩, hX, hR, hC, hP, fun _ => ⟨?_, fun i v hv => ?_, ?_, l4, l5, l6, l7, l8, l9⟩⟩
          · show rI g 43 3 + 1 = _
            rw [l1]; exact len1 _ _
          · show am_upd (g.2.2.1 44) (rI g 43 3).toNat _ i = _
            rw [en]
            rcases ap_get hv with ⟨a1, a2⟩ | ⟨a1, a2⟩
            · rw [am_updN (by omega)]; exact l2 i v a2
            · subst a1; subst a2; rw [updN_at]
          · show rI g 43 4 + 1 = _
            rw [l3]; exact nat1 _
