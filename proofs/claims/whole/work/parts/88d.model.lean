/-! ===== the model: the letters of a proof ===== -/
theorem m_isLetL {g : G2} {ws : List (List Int)} (h : WM g ws) {j : Nat} {l : List Int} (hj : ws[j]? = some l) (h5 : rI g 49 5 = (j : Int)) : ∀ (k m i : Nat), i + k = l.length → k < m → (badLetters (l.drop i) → l_M_isLetters_50 m 0 (i : Int) g = some (0, g)) ∧ (¬ badLetters (l.drop i) → l_M_isLetters_50 m 0 (i : Int) g = some (1, g)) := by
  obtain ⟨h1, h2, h3⟩ := h
  obtain ⟨hok, b, b1, b2, b3, b4⟩ := h3 j l hj
  have hjl := lt_get hj
  have e52 : rA g 52 ((j : Nat) : Int) = (l.length : Int) := b2
  intro k
  induction k with
  | zero =>
    intro m i hi hm
    obtain ⟨m, rfl⟩ : ∃ m', m = m' + 1 := ⟨m - 1, by omega⟩
    rw [s_M_isLetters_50_0, List.drop_eq_nil_of_le (by omega)]
    unfold b_M_isLetters_50_0
    rw [h5, if_pos (by omega), if_pos (by omega), e52, if_pos (by omega), if_neg (by omega)]
    exact ⟨fun z => absurd z (by rintro ⟨c, z1, _⟩; cases z1), fun _ => rfl⟩
  | succ k ih =>
    intro m i hi hm
    obtain ⟨m, rfl⟩ : ∃ m', m = m' + 1 := ⟨m - 1, by omega⟩
    obtain ⟨c, hc⟩ := ex_get (l := l) (k := i) (by omega)
    obtain ⟨c1, c2⟩ := hok.2 c (List.mem_of_getElem? hc)
    obtain ⟨i1, i2⟩ := ih m (i + 1) (by omega) (by omega)
    have hbad : badLetters (l.drop i) ↔ (c ≠ 63 ∧ (c < 65 ∨ 90 < c)) ∨ badLetters (l.drop (i + 1)) := by
      rw [drop_eq hc]
      constructor
      · rintro ⟨d, d1, d2⟩
        rcases List.mem_cons.mp d1 with d1 | d1
        · subst d1; exact Or.inl d2
        · exact Or.inr ⟨d, d1, d2⟩
      · rintro (d2 | ⟨d, d1, d2⟩)
        · exact ⟨c, by simp, d2⟩
        · exact ⟨d, by simp [d1], d2⟩
    rw [hbad, s_M_isLetters_50_0]
    unfold b_M_isLetters_50_0
    rw [h5, if_pos (by omega), if_pos (by omega), e52, if_pos (by omega), if_pos (by omega), bd_some (m_letter ⟨h1, h2, h3⟩ hj hc), if_pos (by omega)]
    by_cases q : c = 63
    · rw [if_pos q]
      exact ⟨fun z => i1 (z.elim (fun w => absurd q w.1) id), fun z => i2 (fun w => z (Or.inr w))⟩
    · rw [if_neg q]
      by_cases q1 : c < 65
      · rw [if_pos q1]
        exact ⟨fun _ => rfl, fun z => absurd (Or.inl ⟨q, Or.inl q1⟩) z⟩
      · rw [if_neg q1]
        by_cases q2 : 90 < c
        · rw [if_pos q2]
          exact ⟨fun _ => rfl, fun z => absurd (Or.inl ⟨q, Or.inr q2⟩) z⟩
        · rw [if_neg q2]
          exact ⟨fun z => i1 (z.elim (fun w => by omega) id), fun z => i2 (fun w => z (Or.inr w))⟩
/-! a tag -/
theorem m_tagL (H T : Nat) (row : List Nat) (hH : H < 16) (hT : T < 16) (h24 : row.length ≤ 24) : ∀ (d m i : Nat) (g : G2), i + d = row.length → d < m → rI g 49 51 = 0 → rI g 49 45 = (H : Int) + 1 → rI g 49 48 = (T : Int) → g.2.2.1 83 H = (row.length : Int) → RowAt (g.2.2.1 82) (24 * H) row → RowAt (g.2.2.1 84) (24 * T) (row.take i) → ∃ g', l_M_tag_50 m 0 (i : Int) g = some (gI (gA g' 85 (T : Int) (row.length : Int)) 49 48 ((T : Int) + 1)) ∧ KK (fun r => r ≠ 84) g g' ∧ RowAt (g'.2.2.1 84) (24 * T) row ∧ ∀ p : Nat, p < 24 * T → g'.2.2.1 84 p = g.2.2.1 84 p := by
  intro d
  induction d with
  | zero =>
    intro m i g hi hm h51 h45 h48 h83 h82 h84
    obtain ⟨m, rfl⟩ : ∃ m', m = m' + 1 := ⟨m - 1, by omega⟩
    have e83 : rA g 83 ((rI g 49 45) - 1) = (row.length : Int) := by
      rw [h45, show (H : Int) + 1 - 1 = ((H : Nat) : Int) by omega]; exact h83
    rw [List.take_of_length_le (by omega)] at h84
    refine ⟨g, ?_, KK.rf, h84, fun _ _ => rfl⟩
    rw [s_M_tag_50_0]
    unfold b_M_tag_50_0
    rw [if_pos (by omega), if_pos h51, if_pos (by omega), if_pos (by omega), e83, if_pos (by omega), if_neg (by omega), if_pos h51, if_pos (by omega), h48]
  | succ d ih =>
    intro m i g hi hm h51 h45 h48 h83 h82 h84
    obtain ⟨m, rfl⟩ : ∃ m', m = m' + 1 := ⟨m - 1, by omega⟩
    have e83 : rA g 83 ((rI g 49 45) - 1) = (row.length : Int) := by
      rw [h45, show (H : Int) + 1 - 1 = ((H : Nat) : Int) by omega]; exact h83
    obtain ⟨x, hx⟩ := ex_get (l := row) (k := i) (by omega)
    have e82 : rA g 82 ((24 * ((rI g 49 45) - 1)) + (i : Int)) = (x : Int) := by
      show g.2.2.1 82 ((24 * ((rI g 49 45) - 1)) + (i : Int)).toNat = _
      rw [show ((24 * ((rI g 49 45) - 1)) + (i : Int)).toNat = 24 * H + i by omega]; exact h82 i x hx
    have ep : ((24 * (T : Int)) + (i : Int)).toNat = 24 * T + i := by omega
    obtain ⟨g', a1, a2, a3, a4⟩ := ih m (i + 1) (gA g 84 ((24 * (T : Int)) + (i : Int)) (x : Int)) (by omega) (by omega) h51 h45 h48 h83 h82 (by
      show RowAt (am_upd (g.2.2.1 84) ((24 * (T : Int)) + (i : Int)).toNat (x : Int)) (24 * T) (row.take (i + 1))
      rw [ep, take_succ' hx]
      exact h84.app x _ rfl _ (by rw [List.length_take]; omega))
    refine ⟨g', ?_, (KK.a (by decide) KK.rf).tr a2, a3, fun p hp => ?_⟩
    · rw [s_M_tag_50_0]
      unfold b_M_tag_50_0
      rw [if_pos (by omega), if_pos h51, if_pos (by omega), if_pos (by omega), e83, if_pos (by omega), if_pos (by omega), if_pos (by omega), if_pos (by omega), e82, h48]
      exact a1
    · rw [a4 p hp]
      show am_upd (g.2.2.1 84) ((24 * (T : Int)) + (i : Int)).toNat _ p = _
      rw [ep, am_updN (by omega)]
theorem stkM_app {f l f' : Nat → Int} {stk : List (List Nat × Int64)} {e : List Nat × Int64} (h : StkM f l stk) (h24 : ∀ e ∈ stk, e.1.length ≤ 24) (h1 : RowAt f' (24 * stk.length) e.1) (h2 : ∀ p : Nat, p < 24 * stk.length → f' p = f p) : StkM f' (am_upd l stk.length (e.1.length : Int)) (stk ++ [e]) := by
  intro r x hx
  rcases ap_get hx with ⟨z1, z2⟩ | ⟨z1, z2⟩
  · obtain ⟨w1, w2⟩ := h r x z2
    have := h24 x (List.mem_of_getElem? z2)
    refine ⟨fun i y hy => ?_, ?_⟩
    · have := lt_get hy
      rw [h2 _ (by omega)]; exact w1 i y hy
    · rw [am_updN (by omega)]; exact w2
  · subst z1; subst z2
    exact ⟨h1, updN_at _ _ _⟩
theorem stkM_len {f l : Nat → Int} {stk : List (List Nat × Int64)} (h : StkM f l stk) (T : Nat) (hT : stk.length ≤ T) (v : Int) : StkM f (am_upd l T v) stk := by
  intro r x hx
  have := lt_get hx
  obtain ⟨w1, w2⟩ := h r x hx
  exact ⟨w1, by rw [am_updN (by omega)]; exact w2⟩
def rsm (t : Nat) : RS → RS
  | .error f => .error f
  | .ok S => .ok (S.uStage t)
theorem rep_stg (S : RSt) (t : Nat) (σ : Nat → Nat) : ∀ l, repS (S.uStage t) σ l = repS S σ l
  | [] => rfl
  | s :: l => by
    show ((subS (S.uStage t) σ s).1 ++ (repS (S.uStage t) σ l).1, (subS (S.uStage t) σ s).2 ||| (repS (S.uStage t) σ l).2) = _
    rw [rep_stg S t σ l]; rfl
theorem bind_stg (S : RSt) (t : Nat) : ∀ l r σ, bindS (S.uStage t) l r σ = bindS S l r σ
  | [], _, _ => rfl
  | h :: l, r, σ => by
    show (if kindS (S.uStage t) h = 0 then (if (stR (S.uStage t) r).head? = (rowS (S.uStage t) h).head? then bindS (S.uStage t) l (r + 1) (am_upd σ ((rowS (S.uStage t) h)[1]?.getD 0) r) else none) else (if stR (S.uStage t) r = (repS (S.uStage t) σ (rowS (S.uStage t) h)).1 then bindS (S.uStage t) l (r + 1) σ else none)) = _
    rw [rep_stg S t σ, bind_stg S t l, bind_stg S t l]
    rfl
theorem put_stg (S : RSt) (t : Nat) (e : List Nat × Int64) : putS (S.uStage t) e = rsm t (putS S e) := by
  unfold putS
  by_cases q : 16 ≤ S.stk.length
  · rw [if_pos q, if_pos q]; rfl
  · rw [if_neg q, if_neg q]; rfl
theorem step_stg (S : RSt) (t k : Nat) : stepWithS (S.uStage t) k = rsm t (stepWithS S k) := by
  unfold stepWithS
  by_cases hg : S.gap = true
  · rw [if_pos hg, if_pos hg]; rfl
  · rw [if_neg hg, if_neg hg]
    cases hk : S.sms[k]? with
    | none =>
      rfl
    | some s =>
      show (if s.kind ≤ 1 then putS (S.uStage t) (s.row, s.vs) else if S.stk.length < (hsOf k s.mand).length then .error (-9) else match bindS (S.uStage t) (hsOf k s.mand) (S.stk.length - (hsOf k s.mand).length) (fun _ => 0) with | none => .error (-10) | some σ => useS (S.uStage t) k s (S.stk.length - (hsOf k s.mand).length) σ) = rsm t (if s.kind ≤ 1 then putS S (s.row, s.vs) else if S.stk.length < (hsOf k s.mand).length then .error (-9) else match bindS S (hsOf k s.mand) (S.stk.length - (hsOf k s.mand).length) (fun _ => 0) with | none => .error (-10) | some σ => useS S k s (S.stk.length - (hsOf k s.mand).length) σ)
      by_cases q1 : s.kind ≤ 1
      · rw [if_pos q1, if_pos q1]; exact put_stg _ _ _
      · rw [if_neg q1, if_neg q1]
        by_cases q2 : S.stk.length < (hsOf k s.mand).length
        · rw [if_pos q2, if_pos q2]; rfl
        · rw [if_neg q2, if_neg q2, bind_stg]
          cases hb : bindS S (hsOf k s.mand) (S.stk.length - (hsOf k s.mand).length) (fun _ => 0) with
          | none => rfl
          | some σ =>
            show useS (S.uStage t) k s (S.stk.length - (hsOf k s.mand).length) σ = rsm t (useS S k s (S.stk.length - (hsOf k s.mand).length) σ)
            unfold useS
            rw [rep_stg]
            by_cases q3 : keepsS S σ (prsS S s.asn)
            · have q3' : keepsS (S.uStage t) σ (prsS (S.uStage t) s.asn) := q3
              rw [if_pos q3', if_pos q3]
              by_cases q4 : 24 < (repS S σ s.row).1.length
              · rw [if_pos q4, if_pos q4]; rfl
              · rw [if_neg q4, if_neg q4]
                have z := put_stg ((S.uStk (S.stk.take (S.stk.length - (hsOf k s.mand).length))).uCa ((S.ca.uUse (am_upd S.ca.use s.asn (S.ca.use s.asn + 1))).uSnd (S.ca.snd && sndS S s.asn))) t (repS S σ s.row)
                exact z
            · have q3' : ¬ keepsS (S.uStage t) σ (prsS (S.uStage t) s.asn) := q3
              rw [if_neg q3', if_neg q3]; rfl
theorem num_stg (S : RSt) (t : Nat) : stepNumS (S.uStage t) = rsm t (stepNumS S) := by
  unfold stepNumS
  cases hk : S.refs[S.num - 1]? with
  | some k =>
    exact step_stg S t k
  | none =>
    show (if S.tc ≤ S.num - S.refs.length - 1 then .error (-8) else if S.gap = true then .ok (S.uStage t) else match S.tags[S.num - S.refs.length - 1]? with | some e => putS (S.uStage t) e | none => .error (-8)) = rsm t (if S.tc ≤ S.num - S.refs.length - 1 then .error (-8) else if S.gap = true then .ok S else match S.tags[S.num - S.refs.length - 1]? with | some e => putS S e | none => .error (-8))
    by_cases q1 : S.tc ≤ S.num - S.refs.length - 1
    · rw [if_pos q1, if_pos q1]; rfl
    · rw [if_neg q1, if_neg q1]
      by_cases q2 : S.gap = true
      · rw [if_pos q2, if_pos q2]; rfl
      · rw [if_neg q2, if_neg q2]
        cases ht : S.tags[S.num - S.refs.length - 1]? with
        | none => rfl
        | some e => exact put_stg S t e
/-- what a step keeps of the state -/
def KS (S S' : RSt) : Prop := S'.1 = S.1 ∧ S'.2.1 = S.2.1 ∧ S'.2.2.1 = S.2.2.1 ∧ S'.2.2.2.2.2 = S.2.2.2.2.2
theorem put_ks {S S' : RSt} {e : List Nat × Int64} (h : putS S e = .ok S') : KS S S' := by
  unfold putS at h
  by_cases q : 16 ≤ S.stk.length
  · rw [if_pos q] at h; cases h
  · rw [if_neg q] at h; injection h with h; subst h; exact ⟨rfl, rfl, rfl, rfl⟩
theorem step_ks {S S' : RSt} {k : Nat} (h : stepWithS S k = .ok S') : KS S S' := by
  unfold stepWithS at h
  by_cases hg : S.gap = true
  · rw [if_pos hg] at h; injection h with h; subst h; exact ⟨rfl, rfl, rfl, rfl⟩
  · rw [if_neg hg] at h
    cases hk : S.sms[k]? with
    | none => rw [hk] at h; cases h
    | some s =>
      rw [hk] at h
      have h : (if s.kind ≤ 1 then putS S (s.row, s.vs) else if S.stk.length < (hsOf k s.mand).length then .error (-9) else match bindS S (hsOf k s.mand) (S.stk.length - (hsOf k s.mand).length) (fun _ => 0) with | none => .error (-10) | some σ => useS S k s (S.stk.length - (hsOf k s.mand).length) σ) = Except.ok S' := h
      by_cases q1 : s.kind ≤ 1
      · rw [if_pos q1] at h; exact put_ks h
      · rw [if_neg q1] at h
        by_cases q2 : S.stk.length < (hsOf k s.mand).length
        · rw [if_pos q2] at h; cases h
        · rw [if_neg q2] at h
          cases hb : bindS S (hsOf k s.mand) (S.stk.length - (hsOf k s.mand).length) (fun _ => 0) with
          | none => rw [hb] at h; cases h
          | some σ =>
            rw [hb] at h
            have h : useS S k s (S.stk.length - (hsOf k s.mand).length) σ = Except.ok S' := h
            unfold useS at h
            by_cases q3 : keepsS S σ (prsS S s.asn)
            · rw [if_pos q3] at h
              by_cases q4 : 24 < (repS S σ s.row).1.length
              · rw [if_pos q4] at h; cases h
              · rw [if_neg q4] at h; have z := put_ks h; exact z
            · rw [if_neg q3] at h; cases h
theorem num_ks {S S' : RSt} (h : stepNumS S = .ok S') : KS S S' := by
  unfold stepNumS at h
  cases hk : S.refs[S.num - 1]? with
  | some k => rw [hk] at h; exact step_ks h
  | none =>
    rw [hk] at h
    have h : (if S.tc ≤ S.num - S.refs.length - 1 then .error (-8) else if S.gap = true then .ok S else match S.tags[S.num - S.refs.length - 1]? with | some e => putS S e | none => .error (-8)) = Except.ok S' := h
    by_cases q1 : S.tc ≤ S.num - S.refs.length - 1
    · rw [if_pos q1] at h; cases h
    · rw [if_neg q1] at h
      by_cases q2 : S.gap = true
      · rw [if_pos q2] at h; injection h with h; subst h; exact ⟨rfl, rfl, rfl, rfl⟩
      · rw [if_neg q2] at h
        cases ht : S.tags[S.num - S.refs.length - 1]? with
        | none => rw [ht] at h; cases h
        | some e => rw [ht] at h; exact put_ks h
/-- a step by its number -/
theorem m_stepNum {S : RSt} {g : G2} (hR : MRep S g) (hi : Iv S) (hs : S.stage = 12) (hn : 1 ≤ S.num ∧ S.num ≤ 9999) (h6 : rI g 49 6 = 0) : StpR S g (f_M_stepWith_50 (S.ass.length : Int) (S.num : Int) g) (stepNumS S) := by
  have m40 : S.sms.length < 40 := (hi.2.2.2.2.2.2.1.1 (by omega)).2.1
  obtain ⟨_, ha, hh, h16, h24⟩ := hi.pu (by omega)
  obtain ⟨⟨⟨xn, _⟩, ⟨x74, x75, x76⟩, x45, x82, x51⟩, _⟩ := hR.2.2.2.2.1 (by omega)
  obtain ⟨x53, x88, x48, x84, _⟩ := hR.2.2.2.2.2 (by omega)
  obtain ⟨r1, r2, r3, r4, r5, r6, r7, r8, _⟩ := hi.2.2.2.2.2.2.2.2.1 (by omega)
  have hl := hs_len S.sms.length S.cmand
  have e70 : rA g 70 ((S.ass.length : Nat) : Int) = ((hsOf S.sms.length S.cmand).length : Int) := xn.1
  unfold f_M_stepWith_50 stepNumS
  rw [if_pos (by omega), if_pos (by omega), e70, if_pos (by omega)]
  have bs : ∀ o : Option G2, (o.bind fun g15 => some g15) = o := fun o => by cases o <;> rfl
  by_cases q1 : S.num ≤ (hsOf S.sms.length S.cmand).length
  · obtain ⟨k, hk⟩ := ex_get (l := hsOf S.sms.length S.cmand) (k := S.num - 1) (by omega)
    have hk2 : S.refs[S.num - 1]? = some k := by
      rw [← r2, List.getElem?_take, if_pos (by omega)] at hk; exact hk
    have e69 : rA g 69 (((40 * (S.ass.length : Int)) + (S.num : Int)) - 1) = (k : Int) := by
      show g.2.2.1 69 (((40 * (S.ass.length : Int)) + (S.num : Int)) - 1).toNat = _
      rw [show (((40 * (S.ass.length : Int)) + (S.num : Int)) - 1).toNat = 40 * S.ass.length + (S.num - 1) by omega]; exact xn.2 _ k hk
    rw [if_neg (by omega), if_pos (by omega), e69, hk2, bs]
    exact m_step hR hi (by omega) k (r4 k (List.mem_of_getElem? hk2)) h6
  · rw [if_pos (by omega), x53, if_pos (by omega)]
    by_cases q2 : S.num ≤ S.refs.length
    · obtain ⟨k, hk⟩ := ex_get (l := S.refs) (k := S.num - 1) (by omega)
      have e88 : rA g 88 (((S.num : Int) - ((hsOf S.sms.length S.cmand).length : Int)) - 1) = (k : Int) := by
        show g.2.2.1 88 (((S.num : Int) - ((hsOf S.sms.length S.cmand).length : Int)) - 1).toNat = _
        refine x88 _ k ?_
        rw [List.getElem?_drop]
        rw [show (hsOf S.sms.length S.cmand).length + (((S.num : Int) - ((hsOf S.sms.length S.cmand).length : Int)) - 1).toNat = S.num - 1 by omega]
        exact hk
      rw [if_neg (by omega), if_pos (by omega), e88, hk, bs]
      exact m_step hR hi (by omega) k (r4 k (List.mem_of_getElem? hk)) h6
    · have hk : S.refs[S.num - 1]? = none := List.getElem?_eq_none (by omega)
      rw [if_pos (by omega), x48, if_pos (by omega), hk]
      show StpR S g _ (if S.tc ≤ S.num - S.refs.length - 1 then .error (-8) else if S.gap = true then .ok S else match S.tags[S.num - S.refs.length - 1]? with | some e => putS S e | none => .error (-8))
      by_cases q3 : S.tc ≤ S.num - S.refs.length - 1
      · rw [if_pos (show (((hsOf S.sms.length S.cmand).length : Int) + (S.lstd : Int)) + (S.tc : Int) < (S.num : Int) by omega), if_pos q3, m_fail0 h6, Option.bind_some]
        exact ⟨_, rfl, SK.fail, rfl, rfl, by decide, by decide⟩
      · rw [if_neg (show ¬ (((hsOf S.sms.length S.cmand).length : Int) + (S.lstd : Int)) + (S.tc : Int) < (S.num : Int) by omega), if_neg q3, x51, if_pos (b01_ir _)]
        cases hg : S.gap with
        | true =>
          rw [if_neg (show ¬ b01 true = 0 by decide), if_pos rfl]
          exact ⟨g, rfl, SK.rf, h6, rfl, hR⟩
        | false =>
          have htl := r8 hg
          obtain ⟨e, he⟩ := ex_get (l := S.tags) (k := S.num - S.refs.length - 1) (by omega)
          obtain ⟨w1, w2⟩ := x84 _ e he
          have e24 := (r5 e (List.mem_of_getElem? he)).1.2.1
          rw [if_pos (show b01 false = 0 by decide), if_neg (show ¬ false = true by decide), he]
          show StpR S g _ (putS S e)
          have ei : ((((S.num : Int) - ((hsOf S.sms.length S.cmand).length : Int)) - (S.lstd : Int)) - 1) = ((S.num - S.refs.length - 1 : Nat) : Int) := by omega
          rw [ei]
          have hp := m_put hR (by omega) ha hh h16 h24 h6 e (fun g1 => l_M_pushTagged_50 20000 0 ((S.num - S.refs.length - 1 : Nat) : Int) 0 g1) (fun hlt => m_pushTL (S.num - S.refs.length - 1) S.stk.length e.1 (by omega) hlt e24 e.1.length 20000 0 g (by omega) (by omega) x45 w2 w1 (by rw [List.take_zero]; exact RowAt.nil _ _))
          have hfun : ((f_M_pushTagged_50 ((S.num - S.refs.length - 1 : Nat) : Int) g).bind fun g12 => (f_M_tally_50 (S.ass.length : Int) g12).bind fun g13 => some g13) = ((bd (f_M_hasRoom_50 g) fun r1 g1 => if ir r1 then if r1 = 0 then some g1 else l_M_pushTagged_50 20000 0 ((S.num - S.refs.length - 1 : Nat) : Int) 0 g1 else none).bind fun g6 => f_M_tally_50 (S.ass.length : Int) g6) := by
            unfold f_M_pushTagged_50
            congr 1
            funext g12
            exact bs _
          rw [hfun]
          exact hp
