/-- what a step of a proof leaves alone -/
def SK (a : Nat) (g g' : G2) : Prop := (∀ r, r ≠ 74 → r ≠ 75 → r ≠ 76 → r ≠ 82 → r ≠ 83 → r ≠ 86 → r ≠ 87 → g'.2.2.1 r = g.2.2.1 r) ∧ g'.2.2.2 53 = g.2.2.2 53 ∧ (∀ k, k ≠ 45 → k ≠ 6 → k ≠ 7 → rI g' 49 k = rI g 49 k) ∧ (∀ p : Nat, p ≠ a → g'.2.2.1 74 p = g.2.2.1 74 p ∧ g'.2.2.1 75 p = g.2.2.1 75 p) ∧ ∀ p : Nat, p < 40 * a → g'.2.2.1 76 p = g.2.2.1 76 p
theorem SK.rf {a : Nat} {g : G2} : SK a g g := ⟨fun _ _ _ _ _ _ _ _ => rfl, rfl, fun _ _ _ _ => rfl, fun _ _ => ⟨rfl, rfl⟩, fun _ _ => rfl⟩
theorem SK.tr {a : Nat} {x y z : G2} (h : SK a x y) (k : SK a y z) : SK a x z := ⟨fun r h1 h2 h3 h4 h5 h6 h7 => (k.1 r h1 h2 h3 h4 h5 h6 h7).trans (h.1 r h1 h2 h3 h4 h5 h6 h7), k.2.1.trans h.2.1, fun q h1 h2 h3 => (k.2.2.1 q h1 h2 h3).trans (h.2.2.1 q h1 h2 h3), fun p hp => ⟨(k.2.2.2.1 p hp).1.trans (h.2.2.2.1 p hp).1, (k.2.2.2.1 p hp).2.trans (h.2.2.2.1 p hp).2⟩, fun p hp => (k.2.2.2.2 p hp).trans (h.2.2.2.2 p hp)⟩
theorem S67.sk {a : Nat} {g g' : G2} (h : S67 g g') : SK a g g' := ⟨fun r h1 h2 h3 h4 h5 h6 h7 => (h r ⟨h6, h7⟩).2.2.1, (h 53 (by decide)).2.2.2, fun k _ _ _ => congrFun (h 49 (by decide)).1 k, fun p _ => ⟨by rw [(h 74 (by decide)).2.2.1], by rw [(h 75 (by decide)).2.2.1]⟩, fun p _ => by rw [(h 76 (by decide)).2.2.1]⟩
theorem SK.km {S : RSt} {g g' : G2} (k : SK S.ass.length g g') (h : MKm S g) : MKm S g' := by
  obtain ⟨k1, k2, k3, k4, k5⟩ := k
  obtain ⟨⟨n1, n2⟩, ⟨s1, s2⟩, ⟨t1, t2⟩⟩ := h
  refine ⟨⟨(k3 8 (by decide) (by decide) (by decide)).trans n1, ?_⟩, ⟨(k3 15 (by decide) (by decide) (by decide)).trans s1, ?_⟩, ⟨(k3 27 (by decide) (by decide) (by decide)).trans t1, fun j x hx => ?_⟩⟩
  · rw [k2, k1 54 (by decide) (by decide) (by decide) (by decide) (by decide) (by decide) (by decide), k1 57 (by decide) (by decide) (by decide) (by decide) (by decide) (by decide) (by decide)]; exact n2
  · rw [k1 58 (by decide) (by decide) (by decide) (by decide) (by decide) (by decide) (by decide), k1 59 (by decide) (by decide) (by decide) (by decide) (by decide) (by decide) (by decide), k1 61 (by decide) (by decide) (by decide) (by decide) (by decide) (by decide) (by decide), k1 60 (by decide) (by decide) (by decide) (by decide) (by decide) (by decide) (by decide), k1 64 (by decide) (by decide) (by decide) (by decide) (by decide) (by decide) (by decide)]; exact s2
  · have hj : j < S.ass.length := lt_get hx
    obtain ⟨y1, ⟨s, y2, y3, y4⟩, ⟨L, l1, l2, l3⟩, y5, y6, y7, y8, y9⟩ := t2 j x hx
    unfold MAs NdAt PrAt
    rw [k1 68 (by decide) (by decide) (by decide) (by decide) (by decide) (by decide) (by decide), k1 70 (by decide) (by decide) (by decide) (by decide) (by decide) (by decide) (by decide), k1 69 (by decide) (by decide) (by decide) (by decide) (by decide) (by decide) (by decide), k1 73 (by decide) (by decide) (by decide) (by decide) (by decide) (by decide) (by decide), k1 71 (by decide) (by decide) (by decide) (by decide) (by decide) (by decide) (by decide), k1 72 (by decide) (by decide) (by decide) (by decide) (by decide) (by decide) (by decide), k1 77 (by decide) (by decide) (by decide) (by decide) (by decide) (by decide) (by decide), k1 78 (by decide) (by decide) (by decide) (by decide) (by decide) (by decide) (by decide)]
    refine ⟨y1, ⟨s, y2, y3, y4⟩, ⟨L, l1, l2, l3⟩, ?_, ?_, fun i hi => ?_, y8, y9⟩
    · rw [(k4 j (by omega)).1]; exact y5
    · rw [(k4 j (by omega)).2]; exact y6
    · rw [k5 _ (by omega)]; exact y7 i hi
theorem SK.wm {a : Nat} {g g' : G2} {ws : List (List Int)} (k : SK a g g') (h : WM g ws) : WM g' ws := by
  obtain ⟨k1, k2, k3, k4, k5⟩ := k
  unfold WM at *
  rw [k3 4 (by decide) (by decide) (by decide), k1 51 (by decide) (by decide) (by decide) (by decide) (by decide) (by decide) (by decide), k1 52 (by decide) (by decide) (by decide) (by decide) (by decide) (by decide) (by decide), k1 50 (by decide) (by decide) (by decide) (by decide) (by decide) (by decide) (by decide)]
  exact h
theorem SK.rep {S S' : RSt} {g g' : G2} (k : SK S.ass.length g g') (h : MRep S g) (hs : 10 ≤ S.stage) (e1 : S'.1 = S.1) (e2 : S'.2.1 = S.2.1) (e3 : S'.2.2.1 = S.2.2.1) (e4 : S'.ca.prs = S.ca.prs) (e5 : S'.gap = S.gap) (e6 : S'.2.2.2.2.2 = S.2.2.2.2.2) (h74 : g'.2.2.1 74 S.ass.length = (S'.ca.stp : Int) ∧ g'.2.2.1 75 S.ass.length = (S'.ca.hgt : Int) ∧ ∀ i : Nat, i < 40 → g'.2.2.1 76 (40 * S.ass.length + i) = (S'.ca.use i : Int)) (h45 : rI g' 49 45 = (S'.stk.length : Int)) (h82 : StkM (g'.2.2.1 82) (g'.2.2.1 83) S'.stk) : MRep S' g' := by
  have hK := k.km h.1
  obtain ⟨k1, k2, k3, k4, k5⟩ := k
  obtain ⟨K, X, C, H, P, L⟩ := S
  obtain ⟨K', X', C', H', P', L'⟩ := S'
  have f1 : K' = K := e1
  have f2 : X' = X := e2
  have f3 : C' = C := e3
  have f6 : L' = L := e6
  subst f1; subst f2; subst f3; subst f6
  obtain ⟨_, hX, hD, hC, hP, hL⟩ := h
  obtain ⟨⟨⟨p1, p2⟩, _, _, _, p5⟩, p6⟩ := hP hs
  refine ⟨hK, ?_, ?_, ?_, fun _ => ⟨⟨⟨?_, ?_⟩, h74, h45, h82, ?_⟩, fun z => ?_⟩, fun z => ?_⟩
  · unfold MX MV MH MPr at hX ⊢
    rw [k3 14 (by decide) (by decide) (by decide), k3 23 (by decide) (by decide) (by decide), k1 55 (by decide) (by decide) (by decide) (by decide) (by decide) (by decide) (by decide), k1 56 (by decide) (by decide) (by decide) (by decide) (by decide) (by decide) (by decide), k1 62 (by decide) (by decide) (by decide) (by decide) (by decide) (by decide) (by decide), k1 63 (by decide) (by decide) (by decide) (by decide) (by decide) (by decide) (by decide), k1 65 (by decide) (by decide) (by decide) (by decide) (by decide) (by decide) (by decide), k1 66 (by decide) (by decide) (by decide) (by decide) (by decide) (by decide) (by decide), k1 67 (by decide) (by decide) (by decide) (by decide) (by decide) (by decide) (by decide)]
    exact hX
  · unfold MD at hD ⊢
    rw [k1 81 (by decide) (by decide) (by decide) (by decide) (by decide) (by decide) (by decide)]; exact hD
  · unfold MC at hC ⊢
    rw [k3 40 (by decide) (by decide) (by decide), k1 79 (by decide) (by decide) (by decide) (by decide) (by decide) (by decide) (by decide)]; exact hC
  · unfold NdAt at p1 ⊢
    rw [k1 70 (by decide) (by decide) (by decide) (by decide) (by decide) (by decide) (by decide), k1 69 (by decide) (by decide) (by decide) (by decide) (by decide) (by decide) (by decide)]; exact p1
  · rw [e4]
    unfold PrAt at p2 ⊢
    rw [k1 73 (by decide) (by decide) (by decide) (by decide) (by decide) (by decide) (by decide), k1 71 (by decide) (by decide) (by decide) (by decide) (by decide) (by decide) (by decide), k1 72 (by decide) (by decide) (by decide) (by decide) (by decide) (by decide) (by decide)]; exact p2
  · rw [k3 51 (by decide) (by decide) (by decide), e5]; exact p5
  · rw [k3 48 (by decide) (by decide) (by decide)]; exact p6 z
  · have := hL z
    unfold StkM at this ⊢
    rw [k3 53 (by decide) (by decide) (by decide), k3 48 (by decide) (by decide) (by decide), k3 54 (by decide) (by decide) (by decide), k3 55 (by decide) (by decide) (by decide), k3 56 (by decide) (by decide) (by decide), k1 88 (by decide) (by decide) (by decide) (by decide) (by decide) (by decide) (by decide), k1 84 (by decide) (by decide) (by decide) (by decide) (by decide) (by decide) (by decide), k1 85 (by decide) (by decide) (by decide) (by decide) (by decide) (by decide) (by decide)]
    exact this
theorem m_tally {g : G2} {a h x : Nat} (ha : a < 40) (hh : h ≤ 17) (hx : x ≤ 17) (h45 : rI g 49 45 = (h : Int)) (h75 : g.2.2.1 75 a = (x : Int)) : f_M_tally_50 (a : Int) g = some (gA (gA g 74 (a : Int) ((rA g 74 (a : Int)) + 1)) 75 (a : Int) ((max x h : Nat) : Int)) := by
  have e75 : rA g 75 ((a : Nat) : Int) = (x : Int) := h75
  unfold f_M_tally_50
  rw [if_pos (by omega), if_pos (by omega), e75, if_pos (by omega)]
  by_cases q : (x : Int) < rI g 49 45
  · rw [if_pos q, h45, show max x h = h by omega]
  · rw [if_neg q, show max x h = x by omega]
theorem SK.tally {a : Nat} {g : G2} {v w : Int} : SK a g (gA (gA g 74 (a : Int) v) 75 (a : Int) w) := by
  refine ⟨fun r h1 h2 h3 h4 h5 h6 h7 => ?_, rfl, fun _ _ _ _ => rfl, fun p hp => ⟨?_, ?_⟩, fun _ _ => rfl⟩
  · exact (am_updN h2).trans (am_updN h1)
  · exact am_updN hp
  · exact am_updN hp
/-- a row is pushed from a cell -/
theorem m_pushHL (k H : Nat) (row : List Nat) (hk : k < 40) (hH : H < 16) (h24 : row.length ≤ 24) : ∀ (d m i : Nat) (g : G2), i + d = row.length → d < m → rI g 49 45 = (H : Int) → g.2.2.1 61 k = (row.length : Int) → RowAt (g.2.2.1 60) (24 * k) row → RowAt (g.2.2.1 82) (24 * H) (row.take i) → ∃ g', l_M_pushHypothesis_50 m 0 (k : Int) (i : Int) g = some (gI (gA g' 83 (H : Int) (row.length : Int)) 49 45 ((H : Int) + 1)) ∧ KK (fun r => r ≠ 82) g g' ∧ RowAt (g'.2.2.1 82) (24 * H) row ∧ ∀ p : Nat, p < 24 * H → g'.2.2.1 82 p = g.2.2.1 82 p := by
  intro d
  induction d with
  | zero =>
    intro m i g hi hm h45 h61 h60 h82
    obtain ⟨m, rfl⟩ : ∃ m', m = m' + 1 := ⟨m - 1, by omega⟩
    have e61 : rA g 61 ((k : Nat) : Int) = (row.length : Int) := h61
    rw [List.take_of_length_le (by omega)] at h82
    refine ⟨g, ?_, KK.rf, h82, fun _ _ => rfl⟩
    rw [s_M_pushHypothesis_50_0]
    unfold b_M_pushHypothesis_50_0
    rw [if_pos (by omega), if_pos (by omega), e61, if_pos (by omega), if_neg (by omega), if_pos (by omega), h45]
  | succ d ih =>
    intro m i g hi hm h45 h61 h60 h82
    obtain ⟨m, rfl⟩ : ∃ m', m = m' + 1 := ⟨m - 1, by omega⟩
    have e61 : rA g 61 ((k : Nat) : Int) = (row.length : Int) := h61
    obtain ⟨x, hx⟩ := ex_get (l := row) (k := i) (by omega)
    have e60 : rA g 60 ((24 * (k : Int)) + (i : Int)) = (x : Int) := by
      show g.2.2.1 60 ((24 * (k : Int)) + (i : Int)).toNat = _
      rw [show ((24 * (k : Int)) + (i : Int)).toNat = 24 * k + i by omega]; exact h60 i x hx
    have ep : ((24 * (H : Int)) + (i : Int)).toNat = 24 * H + i := by omega
    obtain ⟨g', a1, a2, a3, a4⟩ := ih m (i + 1) (gA g 82 ((24 * (H : Int)) + (i : Int)) (x : Int)) (by omega) (by omega) h45 h61 h60 (by
      show RowAt (am_upd (g.2.2.1 82) ((24 * (H : Int)) + (i : Int)).toNat (x : Int)) (24 * H) (row.take (i + 1))
      rw [ep, take_succ' hx]
      exact h82.app x _ rfl _ (by rw [List.length_take]; omega))
    refine ⟨g', ?_, (KK.a (by decide) KK.rf).tr a2, a3, fun p hp => ?_⟩
    · rw [s_M_pushHypothesis_50_0]
      unfold b_M_pushHypothesis_50_0
      rw [if_pos (by omega), if_pos (by omega), e61, if_pos (by omega), if_pos (by omega), if_pos (by omega), h45, if_pos (by omega), e60]
      exact a1
    · rw [a4 p hp]
      show am_upd (g.2.2.1 82) ((24 * (H : Int)) + (i : Int)).toNat _ p = _
      rw [ep, am_updN (by omega)]
theorem m_pushTL (k H : Nat) (row : List Nat) (hk : k < 16) (hH : H < 16) (h24 : row.length ≤ 24) : ∀ (d m i : Nat) (g : G2), i + d = row.length → d < m → rI g 49 45 = (H : Int) → g.2.2.1 85 k = (row.length : Int) → RowAt (g.2.2.1 84) (24 * k) row → RowAt (g.2.2.1 82) (24 * H) (row.take i) → ∃ g', l_M_pushTagged_50 m 0 (k : Int) (i : Int) g = some (gI (gA g' 83 (H : Int) (row.length : Int)) 49 45 ((H : Int) + 1)) ∧ KK (fun r => r ≠ 82) g g' ∧ RowAt (g'.2.2.1 82) (24 * H) row ∧ ∀ p : Nat, p < 24 * H → g'.2.2.1 82 p = g.2.2.1 82 p := by
  intro d
  induction d with
  | zero =>
    intro m i g hi hm h45 h61 h60 h82
    obtain ⟨m, rfl⟩ : ∃ m', m = m' + 1 := ⟨m - 1, by omega⟩
    have e61 : rA g 85 ((k : Nat) : Int) = (row.length : Int) := h61
    rw [List.take_of_length_le (by omega)] at h82
    refine ⟨g, ?_, KK.rf, h82, fun _ _ => rfl⟩
    rw [s_M_pushTagged_50_0]
    unfold b_M_pushTagged_50_0
    rw [if_pos (by omega), if_pos (by omega), e61, if_pos (by omega), if_neg (by omega), if_pos (by omega), h45]
  | succ d ih =>
    intro m i g hi hm h45 h61 h60 h82
    obtain ⟨m, rfl⟩ : ∃ m', m = m' + 1 := ⟨m - 1, by omega⟩
    have e61 : rA g 85 ((k : Nat) : Int) = (row.length : Int) := h61
    obtain ⟨x, hx⟩ := ex_get (l := row) (k := i) (by omega)
    have e60 : rA g 84 ((24 * (k : Int)) + (i : Int)) = (x : Int) := by
      show g.2.2.1 84 ((24 * (k : Int)) + (i : Int)).toNat = _
      rw [show ((24 * (k : Int)) + (i : Int)).toNat = 24 * k + i by omega]; exact h60 i x hx
    have ep : ((24 * (H : Int)) + (i : Int)).toNat = 24 * H + i := by omega
    obtain ⟨g', a1, a2, a3, a4⟩ := ih m (i + 1) (gA g 82 ((24 * (H : Int)) + (i : Int)) (x : Int)) (by omega) (by omega) h45 h61 h60 (by
      show RowAt (am_upd (g.2.2.1 82) ((24 * (H : Int)) + (i : Int)).toNat (x : Int)) (24 * H) (row.take (i + 1))
      rw [ep, take_succ' hx]
      exact h82.app x _ rfl _ (by rw [List.length_take]; omega))
    refine ⟨g', ?_, (KK.a (by decide) KK.rf).tr a2, a3, fun p hp => ?_⟩
    · rw [s_M_pushTagged_50_0]
      unfold b_M_pushTagged_50_0
      rw [if_pos (by omega), if_pos (by omega), e61, if_pos (by omega), if_pos (by omega), if_pos (by omega), h45, if_pos (by omega), e60]
      exact a1
    · rw [a4 p hp]
      show am_upd (g.2.2.1 82) ((24 * (H : Int)) + (i : Int)).toNat _ p = _
      rw [ep, am_updN (by omega)]
/-- the stack with a row more -/
theorem stk_push {g g1 : G2} {stk : List (List Nat × Int64)} {b : Nat} {e : List Nat × Int64} (h : StkM (g.2.2.1 82) (g.2.2.1 83) stk) (h24 : ∀ e ∈ stk, e.1.length ≤ 24) (hb : b ≤ stk.length) (k83 : g1.2.2.1 83 = g.2.2.1 83) (h1 : RowAt (g1.2.2.1 82) (24 * b) e.1) (h2 : ∀ p : Nat, p < 24 * b → g1.2.2.1 82 p = g.2.2.1 82 p) : StkM (g1.2.2.1 82) (am_upd (g1.2.2.1 83) b (e.1.length : Int)) (stk.take b ++ [e]) := by
  intro r f hf
  have hl : (stk.take b).length = b := by rw [List.length_take]; omega
  rcases ap_get hf with ⟨z1, z2⟩ | ⟨z1, z2⟩
  · rw [hl] at z1
    rw [List.getElem?_take, if_pos z1] at z2
    obtain ⟨w1, w2⟩ := h r f z2
    have := h24 f (List.mem_of_getElem? z2)
    refine ⟨fun i x hx => ?_, ?_⟩
    · have := lt_get hx
      rw [h2 _ (by omega)]; exact w1 i x hx
    · rw [am_updN (by omega), k83]; exact w2
  · rw [hl] at z1
    subst z1; subst z2
    exact ⟨h1, updN_at _ _ _⟩
