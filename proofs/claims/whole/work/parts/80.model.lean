/-! ===== the model: types, declarations ===== -/
theorem m_typeL {S : RSt} {g : G2} (hS : MSt S g) (hH : MH S g) (hi : Iv S) (u : Nat) (hu : u < 60) : ∀ (k m i : Nat), i + k = S.sms.length → k < m → ∃ r : Int, l_M_typeOf_50 m 0 (u : Int) (i : Int) g = some (r, g) ∧ ir r ∧ (¬ r < 0 ↔ ∃ q, i ≤ q ∧ q < S.sms.length ∧ kindS S q = 0 ∧ tb S.hyps q = true ∧ (rowS S q)[1]? = some u) := by
  have m40 : S.sms.length ≤ 40 := hi.1.2.1
  have n60 := hi.1.1
  obtain ⟨s1, s2⟩ := hS
  intro k
  induction k with
  | zero =>
    intro m i hik hm
    obtain ⟨m, rfl⟩ : ∃ m', m = m' + 1 := ⟨m - 1, by omega⟩
    refine ⟨-1, ?_, by decide, ⟨fun z => absurd (by decide) z, fun ⟨q, q1, q2, _⟩ => by omega⟩⟩
    rw [s_M_typeOf_50_0]
    unfold b_M_typeOf_50_0
    rw [if_pos (by omega), if_pos (by omega), if_neg (by omega)]
  | succ k ih =>
    intro m i hik hm
    obtain ⟨m, rfl⟩ : ∃ m', m = m' + 1 := ⟨m - 1, by omega⟩
    obtain ⟨s, hs⟩ := ex_get (l := S.sms) (k := i) (by omega)
    obtain ⟨w1, w2, w3, w4, w5⟩ := s2 i s hs
    obtain ⟨z1, z2, z3, z4, z5⟩ := hi.2.2.1 i s hs
    have hk := kind_get hs
    have hr := row_get hs
    have e58 : rA g 58 ((i : Nat) : Int) = (s.kind : Int) + 4 := w1
    have e62 : rA g 62 ((i : Nat) : Int) = b01 (tb S.hyps i) := (hH i (by omega)).1
    obtain ⟨r, a1, a2, a3⟩ := ih m (i + 1) (by omega) (by omega)
    have t1 : ((i : Int) + 1) = ((i + 1 : Nat) : Int) := rfl
    have nx : ¬ (kindS S i = 0 ∧ tb S.hyps i = true ∧ (rowS S i)[1]? = some u) → ∃ r : Int, l_M_typeOf_50 m 0 (u : Int) ((i : Int) + 1) g = some (r, g) ∧ ir r ∧ (¬ r < 0 ↔ ∃ q, i ≤ q ∧ q < S.sms.length ∧ kindS S q = 0 ∧ tb S.hyps q = true ∧ (rowS S q)[1]? = some u) := by
      intro hn
      refine ⟨r, by rw [t1]; exact a1, a2, ?_⟩
      rw [a3]
      constructor
      · rintro ⟨q, q1, q2⟩; exact ⟨q, by omega, q2⟩
      · rintro ⟨q, q1, q2, q3⟩
        rcases Nat.lt_or_ge i q with z | z
        · exact ⟨q, by omega, q2, q3⟩
        · have : q = i := by omega
          subst this
          exact absurd q3 hn
    rw [s_M_typeOf_50_0]
    unfold b_M_typeOf_50_0
    rw [if_pos (by omega), if_pos (by omega), if_pos (by omega), if_pos (by omega), e58, if_pos (by omega)]
    by_cases q0 : s.kind = 0
    · rw [if_pos (by omega), e62, if_pos (b01_ir _)]
      cases hb : tb S.hyps i with
      | false =>
        rw [if_pos (by decide)]
        exact nx (fun z => by rw [hb] at z; exact absurd z.2.1 (by decide))
      | true =>
        obtain ⟨c, v, hcv, hrv⟩ := z4 q0
        have hv := (z2.2.2.1 v (by rw [hcv]; simp)).1
        have e60 : rA g 60 ((24 * (i : Int)) + 1) = (v : Int) := by
          show g.2.2.1 60 ((24 * (i : Int)) + 1).toNat = _
          rw [show ((24 * (i : Int)) + 1).toNat = 24 * i + 1 by omega]
          exact w4 1 v (by rw [hcv]; rfl)
        rw [if_neg (by decide), if_pos (by omega), e60, if_pos (by omega), if_pos (by omega)]
        by_cases qv : v = u
        · rw [if_pos (by omega)]
          refine ⟨(i : Int), rfl, by omega, ⟨fun _ => ⟨i, by omega, by omega, by rw [hk]; exact q0, hb, by rw [hr, hcv, ← qv]; rfl⟩, fun _ => by omega⟩⟩
        · rw [if_neg (by omega)]
          exact nx (fun z => by
            have z3 := z.2.2
            rw [hr, hcv] at z3
            injection z3 with z3
            exact qv z3)
    · rw [if_neg (by omega)]
      exact nx (fun z => q0 (by rw [← hk]; exact z.1))
theorem m_typeOf {S : RSt} {g : G2} (hS : MSt S g) (hH : MH S g) (hi : Iv S) (u : Nat) (hu : u < 60) : ∃ r : Int, f_M_typeOf_50 (u : Int) g = some (r, g) ∧ ir r ∧ (r < 0 ↔ tb S.typed u = false) := by
  obtain ⟨r, a1, a2, a3⟩ := m_typeL hS hH hi u hu S.sms.length 20000 0 (by omega) (by have := hi.1.2.1; omega)
  refine ⟨r, a1, a2, ?_⟩
  have h2 := hi.2.2.2.1.1.2.1 u (by omega)
  have h3 : (¬ r < 0) ↔ tb S.typed u = true := by
    rw [a3, h2]
    constructor
    · rintro ⟨q, _, q2, q3, q4, q5⟩; exact ⟨q, q4, q2, q3, q5⟩
    · rintro ⟨q, q4, q2, q3, q5⟩; exact ⟨q, Nat.zero_le _, q2, q3, q4, q5⟩
  constructor
  · intro z
    cases hq : tb S.typed u with
    | false => rfl
    | true => exact absurd z (h3.mpr hq)
  · intro z
    refine Classical.byContradiction (fun w => ?_)
    have := h3.mp w
    rw [z] at this; cases this
theorem m_declL (k M : Nat) (row : List Nat) (hM : M < 40) (h24 : row.length ≤ 24) : ∀ (d m i : Nat) (g : G2), i + d = row.length → d < m → rI g 49 40 = (row.length : Int) → RowAt (g.2.2.1 79) 0 row → RowAt (g.2.2.1 60) (24 * M) (row.take i) → ∃ (g1 : G2) (m' : Nat), l_M_declare_50 m 0 (k : Int) (M : Int) (i : Int) g = l_M_declare_50 (m' + 1) 0 (k : Int) (M : Int) (row.length : Int) g1 ∧ KK (fun r => r ≠ 60) g g1 ∧ RowAt (g1.2.2.1 60) (24 * M) row ∧ ∀ p : Nat, p < 24 * M → g1.2.2.1 60 p = g.2.2.1 60 p := by
  intro d
  induction d with
  | zero =>
    intro m i g hi hm h40 h79 h60
    obtain ⟨m, rfl⟩ : ∃ m', m = m' + 1 := ⟨m - 1, by omega⟩
    have e : i = row.length := by omega
    subst e
    rw [List.take_length] at h60
    exact ⟨g, m, rfl, KK.rf, h60, fun _ _ => rfl⟩
  | succ d ih =>
    intro m i g hi hm h40 h79 h60
    obtain ⟨m, rfl⟩ : ∃ m', m = m' + 1 := ⟨m - 1, by omega⟩
    obtain ⟨x, hx⟩ := ex_get (l := row) (k := i) (by omega)
    have e79 : rA g 79 ((i : Nat) : Int) = (x : Int) := by
      have := h79 i x hx
      rw [Nat.zero_add] at this; exact this
    have ep : ((24 * (M : Int)) + (i : Int)).toNat = 24 * M + i := by omega
    obtain ⟨g1, m', a1, a2, a3, a4⟩ := ih m (i + 1) (gA g 60 ((24 * (M : Int)) + (i : Int)) (x : Int)) (by omega) (by omega) h40 h79 (by
      show RowAt (am_upd (g.2.2.1 60) ((24 * (M : Int)) + (i : Int)).toNat (x : Int)) (24 * M) (row.take (i + 1))
      rw [ep, take_succ' hx]
      exact h60.app x _ rfl _ (by rw [List.length_take]; omega))
    refine ⟨g1, m', ?_, (KK.a (by decide) KK.rf).tr a2, a3, fun p hp => ?_⟩
    · rw [s_M_declare_50_0]
      unfold b_M_declare_50_0
      rw [if_pos (by omega), if_pos (by omega), if_pos (by omega), if_pos (by omega), if_pos (by omega), e79]
      exact a1
    · rw [a4 p hp]
      show am_upd (g.2.2.1 60) ((24 * (M : Int)) + (i : Int)).toNat _ p = _
      rw [ep, am_updN (by omega)]
theorem hlm (T S : RSt) {x : RSm} (h : T.sms = S.sms ++ [x]) : T.sms.length = S.sms.length + 1 := by rw [h, List.length_append]; rfl
/-- what a declaration leaves alone -/
def SDc (g g' : G2) : Prop := (∀ r, r ≠ 53 → r ≠ 54 → r ≠ 55 → r ≠ 57 → r ≠ 58 → r ≠ 59 → r ≠ 60 → r ≠ 61 → r ≠ 62 → r ≠ 63 → r ≠ 64 → g'.2.2.1 r = g.2.2.1 r) ∧ ∀ k, k ≠ 8 → k ≠ 15 → rI g' 49 k = rI g 49 k
theorem m_declare {S : RSt} {g : G2} (hN : MN S g) (hS : MSt S g) (hX : MX S g) (hi : Iv S) (n60 : S.nms.length < 60) (m40 : S.sms.length < 40) (hk3 : S.ckind ≤ 3) (h40 : rI g 49 40 = (S.crow.length : Int)) (h79 : RowAt (g.2.2.1 79) 0 S.crow) (h24 : S.crow.length ≤ 24) (T : RSt) (hT1 : T.nms = S.nms ++ [(S.clab, 2, S.sms.length)]) (hT2 : T.sms = S.sms ++ [(S.clab, S.ckind, S.crow, S.cvs, T.cmand, S.ass.length)]) (hT3 : T.vars = S.vars) (hT4 : T.hyps = if S.ckind ≤ 1 then S.hyps ||| bit S.sms.length else S.hyps) (hT5 : T.prs = S.prs) (hT6 : T.out = S.out) :
    ∃ g', f_M_declare_50 ((S.ckind : Int) + 4) S.clab g = some ((S.sms.length : Int), g') ∧ SDc g g' ∧ MN T g' ∧ MX T g' ∧ (rI g' 49 15 = (T.sms.length : Int) ∧ ∀ (k : Nat) (s : RSm), T.sms[k]? = some s → g'.2.2.1 58 k = (s.kind : Int) + 4 ∧ (∃ (d : Nat) (x : RNm), T.nms[d]? = some x ∧ g'.2.2.1 59 k = (d : Int) ∧ x.code = s.lab) ∧ g'.2.2.1 61 k = (s.row.length : Int) ∧ RowAt (g'.2.2.1 60) (24 * k) s.row) ∧ (∀ k : Nat, k < S.sms.length → g'.2.2.1 64 k = g.2.2.1 64 k) ∧ g'.2.2.1 64 S.sms.length = -1 := by
  obtain ⟨n1, n2⟩ := hN
  obtain ⟨s1, s2⟩ := hS
  obtain ⟨x1, xv, xh, xp⟩ := hX
  have en : (rI g 49 8).toNat = S.nms.length := by rw [n1, Int.toNat_natCast]
  have em : (rI g 49 15).toNat = S.sms.length := by rw [s1, Int.toNat_natCast]
  have er : (((rI g 49 8) + 1) - 1) = (S.nms.length : Int) := by omega
  obtain ⟨g1, m', a1, a2, a3, a4⟩ := m_declL (S.ckind + 4) S.sms.length S.crow m40 h24 S.crow.length 20000 0 (gA (gA (gA (gA (gI (gA (gA (gA (gB g 53 (rI g 49 8) S.clab) 54 (rI g 49 8) 0) 55 (rI g 49 8) 0) 57 (rI g 49 8) (-1)) 49 8 ((rI g 49 8) + 1)) 57 (S.nms.length : Int) (S.sms.length : Int)) 58 (S.sms.length : Int) ((S.ckind : Int) + 4)) 59 (S.sms.length : Int) (S.nms.length : Int)) 61 (S.sms.length : Int) (rI g 49 40)) (by omega) (by omega) h40 h79 (by rw [List.take_zero]; exact RowAt.nil _ _)
  have k49 : ∀ q, q ≠ 8 → rI g1 49 q = rI g 49 q := fun q hq => by
    rw [show rI g1 49 q = rI (gI g 49 8 ((rI g 49 8) + 1)) 49 q from congrFun (a2 49 (by decide)).1 q]
    show am_upd g.1 49 (am_upd (g.1 49) 8 _) 49 q = _
    rw [updN_at, am_updN hq]
  have kA : ∀ r, r ≠ 60 → g1.2.2.1 r = (gA (gA (gA (gA (gI (gA (gA (gA (gB g 53 (rI g 49 8) S.clab) 54 (rI g 49 8) 0) 55 (rI g 49 8) 0) 57 (rI g 49 8) (-1)) 49 8 ((rI g 49 8) + 1)) 57 (S.nms.length : Int) (S.sms.length : Int)) 58 (S.sms.length : Int) ((S.ckind : Int) + 4)) 59 (S.sms.length : Int) (S.nms.length : Int)) 61 (S.sms.length : Int) (rI g 49 40)).2.2.1 r := fun r hr => (a2 r hr).2.2.1
  have hol : ∀ v : Int, f_M_declare_50 ((S.ckind : Int) + 4) S.clab g = (if S.ckind ≤ 1 then some ((S.sms.length : Int), (gI (gA (gA (gA g1 62 (S.sms.length : Int) 1) 63 (S.sms.length : Int) (rI g1 49 14)) 64 (S.sms.length : Int) (-1)) 49 15 ((rI g1 49 15) + 1))) else some ((S.sms.length : Int), (gI (gA (gA (gA g1 62 (S.sms.length : Int) 0) 63 (S.sms.length : Int) (rI g1 49 14)) 64 (S.sms.length : Int) (-1)) 49 15 ((rI g1 49 15) + 1)))) := by
    intro _
    unfold f_M_declare_50 f_M_addName_50
    rw [if_pos (by omega)]
    show (if 0 ≤ (((rI g 49 8) + 1) - 1) ∧ (((rI g 49 8) + 1) - 1) < 60 then _ else _) = _
    rw [er, if_pos (by omega), s1, if_pos (by omega)]
    have a1' : l_M_declare_50 20000 0 ((S.ckind : Int) + 4) (S.sms.length : Int) 0 (gA (gA (gA (gA (gI (gA (gA (gA (gB g 53 (rI g 49 8) S.clab) 54 (rI g 49 8) 0) 55 (rI g 49 8) 0) 57 (rI g 49 8) (-1)) 49 8 ((rI g 49 8) + 1)) 57 (S.nms.length : Int) (S.sms.length : Int)) 58 (S.sms.length : Int) ((S.ckind : Int) + 4)) 59 (S.sms.length : Int) (S.nms.length : Int)) 61 (S.sms.length : Int) (rI g 49 40)) = l_M_declare_50 (m' + 1) 0 ((S.ckind : Int) + 4) (S.sms.length : Int) (S.crow.length : Int) g1 := a1
    refine a1'.trans ?_
    rw [s_M_declare_50_0]
    unfold b_M_declare_50_0
    have e40 : rI g1 49 40 = (S.crow.length : Int) := (k49 40 (by decide)).trans h40
    rw [if_pos (by omega), if_pos (by omega), if_neg (by omega), if_pos (by omega)]
    by_cases q0 : S.ckind = 0
    · rw [if_pos (by omega), if_pos (by omega), if_pos (by omega)]
    · rw [if_neg (by omega)]
      by_cases q1 : S.ckind = 1
      · rw [if_pos (by omega), if_pos (by omega), if_pos (by omega)]
      · rw [if_neg (by omega), if_pos (by omega), if_neg (by omega)]
  -- the two cases differ in one bit
  have fin : ∀ (v : Int), v = b01 (decide (S.ckind ≤ 1)) → SDc g (gI (gA (gA (gA g1 62 (S.sms.length : Int) v) 63 (S.sms.length : Int) (rI g1 49 14)) 64 (S.sms.length : Int) (-1)) 49 15 ((rI g1 49 15) + 1)) ∧ MN T (gI (gA (gA (gA g1 62 (S.sms.length : Int) v) 63 (S.sms.length : Int) (rI g1 49 14)) 64 (S.sms.length : Int) (-1)) 49 15 ((rI g1 49 15) + 1)) ∧ MX T (gI (gA (gA (gA g1 62 (S.sms.length : Int) v) 63 (S.sms.length : Int) (rI g1 49 14)) 64 (S.sms.length : Int) (-1)) 49 15 ((rI g1 49 15) + 1)) ∧ (rI g1 49 15 + 1 = (T.sms.length : Int) ∧ ∀ (k : Nat) (s : RSm), T.sms[k]? = some s → g1.2.2.1 58 k = (s.kind : Int) + 4 ∧ (∃ (d : Nat) (x : RNm), T.nms[d]? = some x ∧ g1.2.2.1 59 k = (d : Int) ∧ x.code = s.lab) ∧ g1.2.2.1 61 k = (s.row.length : Int) ∧ RowAt (g1.2.2.1 60) (24 * k) s.row) ∧ (∀ k : Nat, k < S.sms.length → am_upd (g1.2.2.1 64) S.sms.length (-1) k = g.2.2.1 64 k) ∧ am_upd (g1.2.2.1 64) S.sms.length (-1) S.sms.length = -1 := by
    intro v hv
    refine ⟨⟨fun r h1 h2 h3 h4 h5 h6 h7 h8 h9 h10 h11 => ?_, fun q h1 h2 => ?_⟩, ⟨?_, fun i x hx => ?_⟩, ⟨?_, fun w hw => ?_, fun k hk => ?_, ?_⟩, ⟨?_, fun k s hk => ?_⟩, fun k hk => ?_, updN_at _ _ _⟩
    · show am_upd (am_upd (am_upd g1.2.2.1 62 _) 63 _) 64 _ r = _
      rw [am_updN h11, am_updN h10, am_updN h9, kA r h7]
      show am_upd (am_upd (am_upd (am_upd (am_upd (am_upd (am_upd g.2.2.1 54 _) 55 _) 57 _) 57 _) 58 _) 59 _) 61 _ r = _
      rw [am_updN h8, am_updN h6, am_updN h5, am_updN h4, am_updN h4, am_updN h3, am_updN h2]
    · show am_upd g1.1 49 (am_upd (g1.1 49) 15 _) 49 q = _
      rw [updN_at, am_updN h2]; exact k49 q h1
    · show rI g1 49 8 = _
      rw [show rI g1 49 8 = rI g 49 8 + 1 from congrFun (a2 49 (by decide)).1 8, n1, hT1]; exact len1 _ _
    · rw [hT1] at hx
      show g1.2.2.2 53 i = _ ∧ g1.2.2.1 54 i = _ ∧ g1.2.2.1 57 i = _
      rw [(a2 53 (by decide)).2.2.2, kA 54 (by decide), kA 57 (by decide)]
      show am_upd (g.2.2.2 53) (rI g 49 8).toNat S.clab i = _ ∧ am_upd (g.2.2.1 54) (rI g 49 8).toNat 0 i = _ ∧ am_upd (am_upd (g.2.2.1 57) (rI g 49 8).toNat (-1)) S.nms.length (S.sms.length : Int) i = _
      rw [en]
      rcases ap_get hx with ⟨z1, z2⟩ | ⟨z1, z2⟩
      · rw [am_updN (by omega), am_updN (by omega), am_updN (by omega), am_updN (by omega)]; exact n2 i x z2
      · subst z1; subst z2
        rw [updN_at, updN_at, updN_at]; exact ⟨rfl, (show (0 : Int) = (((2 + 1) % 3 : Nat) : Int) by decide), rfl⟩
    · show rI g1 49 14 = _
      rw [k49 14 (by decide), hT6]; exact x1
    · rw [hT1, List.length_append] at hw
      have hw2 : w < S.nms.length + 1 := hw
      show g1.2.2.1 55 w = _ ∧ (_ → 0 ≤ g1.2.2.1 56 w ∧ g1.2.2.1 56 w ≤ _) ∧ ∀ t o, _ → (_ ↔ _ ∧ g1.2.2.1 56 w ≤ _)
      rw [kA 55 (by decide), kA 56 (by decide), hT3, hT6]
      show am_upd (g.2.2.1 55) (rI g 49 8).toNat 0 w = _ ∧ (_ → 0 ≤ g.2.2.1 56 w ∧ g.2.2.1 56 w ≤ _) ∧ ∀ t o, _ → (_ ↔ _ ∧ g.2.2.1 56 w ≤ _)
      rw [en]
      by_cases hwn : w = S.nms.length
      · subst hwn
        have hv0 : ∀ (v ty hy : Int64), FrOk S v ty hy → tb v S.nms.length = false := by
          intro v ty hy hf
          cases hq : tb v S.nms.length with
          | false => rfl
          | true => have := (hf.1 _ (by omega) hq).1; omega
        have z0 := hv0 _ _ _ hi.2.2.2.1.1
        rw [updN_at, z0]
        refine ⟨rfl, (fun z => by cases z), fun t o ho => ?_⟩
        rw [hv0 _ _ _ (hi.2.2.2.1.2 t o ho).1]
        simp
      · rw [am_updN hwn]; exact xv w (by omega)
    · rw [hlm T S hT2] at hk
      show am_upd (g1.2.2.1 62) S.sms.length v k = _ ∧ (_ → 0 ≤ am_upd (g1.2.2.1 63) S.sms.length (rI g1 49 14) k ∧ am_upd (g1.2.2.1 63) S.sms.length (rI g1 49 14) k ≤ _) ∧ ∀ t o, _ → (_ ↔ _ ∧ am_upd (g1.2.2.1 63) S.sms.length (rI g1 49 14) k ≤ _)
      rw [hT4, hT6, kA 62 (by decide), kA 63 (by decide), k49 14 (by decide), x1]
      have hh0 : ∀ (v ty hy : Int64), FrOk S v ty hy → tb hy S.sms.length = false := by
        intro v ty hy hf
        cases hq : tb hy S.sms.length with
        | false => rfl
        | true => have := (hf.2.2.1 _ (by omega) hq).1; omega
      by_cases hkm : k = S.sms.length
      · subst hkm
        rw [updN_at, updN_at, hv]
        by_cases q1 : S.ckind ≤ 1
        · rw [if_pos q1, tb_orbit (by omega) (by omega), decide_eq_true rfl, Bool.or_true, decide_eq_true q1]
          refine ⟨rfl, fun _ => ⟨by omega, by omega⟩, fun t o ho => ?_⟩
          rw [hh0 _ _ _ (hi.2.2.2.1.2 t o ho).1]
          have := lt_get ho
          constructor
          · intro z; cases z
          · intro z; omega
        · rw [if_neg q1, hh0 _ _ _ hi.2.2.2.1.1, decide_eq_false q1]
          refine ⟨rfl, (fun z => by cases z), fun t o ho => ?_⟩
          rw [hh0 _ _ _ (hi.2.2.2.1.2 t o ho).1]
          simp
      · rw [am_updN hkm, am_updN hkm]
        have e : tb (if S.ckind ≤ 1 then S.hyps ||| bit S.sms.length else S.hyps) k = tb S.hyps k := by
          by_cases q1 : S.ckind ≤ 1
          · rw [if_pos q1, tb_orbit (by omega) (by omega), decide_eq_false hkm, Bool.or_false]
          · rw [if_neg q1]
        rw [e]
        exact xh k (by omega)
    · unfold MPr
      show rI g1 49 23 = _ ∧ ∃ P : List (Nat × Nat × Nat), _ ∧ (∀ i p, _ → g1.2.2.1 65 i = _ ∧ g1.2.2.1 66 i = _ ∧ g1.2.2.1 67 i = _ ∧ _) ∧ _ ∧ _
      rw [k49 23 (by decide), kA 65 (by decide), kA 66 (by decide), kA 67 (by decide), hT5, hT6]
      exact xp
    · rw [k49 15 (by decide), s1, hlm T S hT2]; rfl
    · rw [hT2] at hk
      rw [kA 58 (by decide), kA 59 (by decide), kA 61 (by decide)]
      show am_upd (g.2.2.1 58) S.sms.length ((S.ckind : Int) + 4) k = _ ∧ (∃ (d : Nat) (x : RNm), _ ∧ am_upd (g.2.2.1 59) S.sms.length (S.nms.length : Int) k = _ ∧ _) ∧ am_upd (g.2.2.1 61) S.sms.length (rI g 49 40) k = _ ∧ _
      rcases ap_get hk with ⟨z1, z2⟩ | ⟨z1, z2⟩
      · obtain ⟨w1, ⟨d, x, d1, d2, d3⟩, w3, w4, w5⟩ := s2 k s z2
        have h24' := row24 hi z2
        rw [am_updN (by omega), am_updN (by omega), am_updN (by omega)]
        refine ⟨w1, ⟨d, x, by rw [hT1]; exact app_ext _ _ d x d1, d2, d3⟩, w3, fun i y hy => ?_⟩
        have := lt_get hy
        rw [a4 _ (by omega)]
        exact w4 i y hy
      · subst z1; subst z2
        rw [updN_at, updN_at, updN_at]
        exact ⟨rfl, ⟨S.nms.length, (S.clab, 2, S.sms.length), by rw [hT1, List.getElem?_append_right (Nat.le_refl _)]; simp, rfl, rfl⟩, h40, a3⟩
    · rw [am_updN (by omega), kA 64 (by decide)]; rfl
  by_cases q1 : S.ckind ≤ 1
  · have h0 := hol 0
    rw [if_pos q1] at h0
    obtain ⟨f1, f2, f3, f4, f5, f6⟩ := fin 1 (by rw [decide_eq_true q1]; rfl)
    exact ⟨_, h0, f1, f2, f3, f4, f5, f6⟩
  · have h0 := hol 0
    rw [if_neg q1] at h0
    obtain ⟨f1, f2, f3, f4, f5, f6⟩ := fin 0 (by rw [decide_eq_false q1]; rfl)
    exact ⟨_, h0, f1, f2, f3, f4, f5, f6⟩
