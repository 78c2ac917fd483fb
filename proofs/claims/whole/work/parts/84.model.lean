/-! ===== the model: an assertion begins ===== -/
theorem m_begin {S : RSt} {g : G2} (hR : MRep S g) (hi : Iv S) (hs : S.stage = 9) : ∃ g1 g2, f_M_findNeeds_50 g = some g1 ∧ f_M_begin_50 (S.ass.length : Int) g1 = some g2 ∧ MRep ((((beginAssertionS S).uStk []).uGap false).uStage 10) g2 ∧ (∀ ws, WM g ws → WM g2 ws) ∧ rI g2 49 5 = rI g 49 5 ∧ rI g2 49 6 = rI g 49 6 ∧ rI g2 49 7 = rI g 49 7 ∧ rI g2 49 27 = rI g 49 27 := by
  obtain ⟨g1, a1, ⟨a2, a3, a4⟩, a5, a6⟩ := m_findNeeds hR hi hs
  obtain ⟨⟨⟨n1, n2⟩, ⟨s1, s2⟩, ⟨t1, t2⟩⟩, hX, _, xc, _, _⟩ := hR
  have m40 : S.sms.length < 40 := (hi.2.2.2.2.2.2.1.1 (by omega)).2.1
  have ha : S.ass.length < 40 := by have := hi.1.2.2.1; omega
  obtain ⟨g3, b1, b2, b3⟩ := m_beginL S.ass.length ha 40 20000 0 (gA (gA (gA g1 74 (S.ass.length : Int) 0) 75 (S.ass.length : Int) 0) 77 (S.ass.length : Int) 0) (by decide) (by decide)
  refine ⟨g1, gI (gI (gI g3 49 45 0) 49 48 0) 49 51 0, a1, ?_, ?_⟩
  · unfold f_M_begin_50
    rw [if_pos (by omega)]
    exact b1
  have k49 : ∀ q, rI g3 49 q = rI g 49 q := fun q => (congrFun (b2 49 (by decide)).1 q).trans (congrFun (a2 49 (by decide)).1 q)
  have kA : ∀ r, r ≠ 76 → r ≠ 74 → r ≠ 75 → r ≠ 77 → g3.2.2.1 r = g1.2.2.1 r := fun r h1 h2 h3 h4 => by
    rw [(b2 r h1).2.2.1]
    show am_upd (am_upd (am_upd g1.2.2.1 74 _) 75 _) 77 _ r = _
    rw [am_updN h4, am_updN h3, am_updN h2]
  have kG : ∀ r, r ≠ 76 → r ≠ 74 → r ≠ 75 → r ≠ 77 → r ≠ 69 → r ≠ 70 → r ≠ 71 → r ≠ 72 → r ≠ 73 → r ≠ 80 → g3.2.2.1 r = g.2.2.1 r := fun r h1 h2 h3 h4 h5 h6 h7 h8 h9 h10 => (kA r h1 h2 h3 h4).trans (a2 r ⟨h5, h6, h7, h8, h9, h10⟩).2.2.1
  have kB : g3.2.2.2 53 = g.2.2.2 53 := ((b2 53 (by decide)).2.2.2).trans (a2 53 (by decide)).2.2.2
  refine ⟨⟨⟨⟨(k49 8).trans n1, fun i x hx => ?_⟩, ⟨(k49 15).trans s1, fun k s hk => ?_⟩, ⟨(k49 27).trans t1, fun j x hx => ?_⟩⟩, ?_, fun z => absurd z (by show ¬ 10 = 3; decide), fun _ => ?_, fun _ => ⟨⟨⟨?_, ?_⟩, ⟨?_, ?_, fun i h40 => ?_⟩, rfl, fun r e he => ?_, rfl⟩, fun _ => rfl⟩, fun z => absurd z (by show ¬ 12 ≤ 10; decide)⟩, fun ws hw => ?_, k49 5, k49 6, k49 7, k49 27⟩
  · show g3.2.2.2 53 i = _ ∧ g3.2.2.1 54 i = _ ∧ g3.2.2.1 57 i = _
    rw [kB, kG 54 (by decide) (by decide) (by decide) (by decide) (by decide) (by decide) (by decide) (by decide) (by decide) (by decide), kG 57 (by decide) (by decide) (by decide) (by decide) (by decide) (by decide) (by decide) (by decide) (by decide) (by decide)]
    exact n2 i x hx
  · show g3.2.2.1 58 k = _ ∧ (∃ d x, _ ∧ g3.2.2.1 59 k = _ ∧ _) ∧ g3.2.2.1 61 k = _ ∧ RowAt (g3.2.2.1 60) _ _ ∧ g3.2.2.1 64 k = _
    rw [kG 58 (by decide) (by decide) (by decide) (by decide) (by decide) (by decide) (by decide) (by decide) (by decide) (by decide), kG 59 (by decide) (by decide) (by decide) (by decide) (by decide) (by decide) (by decide) (by decide) (by decide) (by decide), kG 61 (by decide) (by decide) (by decide) (by decide) (by decide) (by decide) (by decide) (by decide) (by decide) (by decide), kG 60 (by decide) (by decide) (by decide) (by decide) (by decide) (by decide) (by decide) (by decide) (by decide) (by decide), kG 64 (by decide) (by decide) (by decide) (by decide) (by decide) (by decide) (by decide) (by decide) (by decide) (by decide)]
    exact s2 k s hk
  · have hj : j < S.ass.length := lt_get hx
    obtain ⟨y1, ⟨s, y2, y3, y4⟩, ⟨L, l1, l2, l3⟩, y5, y6, y7, y8, y9⟩ := t2 j x hx
    have hss : (hsOf x.stm s.mand).length ≤ 40 := by
      have := (hi.2.2.2.2.2.2.2.2.2 j x hx).2.2.1
      have hle : (hsOf x.stm s.mand).length ≤ x.stm := by
        unfold hsOf
        exact Nat.le_trans (List.length_filter_le _ _) (by simp)
      omega
    have hLl : L.length ≤ 40 := by
      have := nd_len (L.map nrm) x.prs l3.1 (fun p hp => (l3.2 p).mp hp)
      rw [List.length_map] at this
      have := (hi.2.2.2.2.2.2.2.2.2 j x hx).1
      omega
    refine ⟨?_, ⟨s, y2, ?_, fun i h hh => ?_⟩, ⟨L, ?_, fun u p hp => ?_, l3⟩, ?_, ?_, fun i h40 => ?_, ?_, ?_⟩
    · show g3.2.2.1 68 j = _
      rw [kG 68 (by decide) (by decide) (by decide) (by decide) (by decide) (by decide) (by decide) (by decide) (by decide) (by decide)]; exact y1
    · show g3.2.2.1 70 j = _
      rw [kA 70 (by decide) (by decide) (by decide) (by decide), (a4 j (by omega)).1]; exact y3
    · show g3.2.2.1 69 (40 * j + i) = _
      have := lt_get hh
      rw [kA 69 (by decide) (by decide) (by decide) (by decide), (a3 _ (by omega)).1]; exact y4 i h hh
    · show g3.2.2.1 73 j = _
      rw [kA 73 (by decide) (by decide) (by decide) (by decide), (a4 j (by omega)).2]; exact l1
    · show g3.2.2.1 71 (40 * j + u) = _ ∧ g3.2.2.1 72 (40 * j + u) = _
      have := lt_get hp
      rw [kA 71 (by decide) (by decide) (by decide) (by decide), kA 72 (by decide) (by decide) (by decide) (by decide), (a3 _ (by omega)).2.1, (a3 _ (by omega)).2.2]; exact l2 u p hp
    · show g3.2.2.1 74 j = _
      rw [(b2 74 (by decide)).2.2.1]
      show am_upd (g1.2.2.1 74) S.ass.length _ j = _
      rw [am_updN (by omega), (a2 74 (by decide)).2.2.1]; exact y5
    · show g3.2.2.1 75 j = _
      rw [(b2 75 (by decide)).2.2.1]
      show am_upd (g1.2.2.1 75) S.ass.length _ j = _
      rw [am_updN (by omega), (a2 75 (by decide)).2.2.1]; exact y6
    · show g3.2.2.1 76 (40 * j + i) = _
      rw [b3, if_neg (by omega)]
      show g1.2.2.1 76 (40 * j + i) = _
      rw [(a2 76 (by decide)).2.2.1]; exact y7 i h40
    · show g3.2.2.1 77 j = _
      rw [(b2 77 (by decide)).2.2.1]
      show am_upd (g1.2.2.1 77) S.ass.length _ j = _
      rw [am_updN (by omega), (a2 77 (by decide)).2.2.1]; exact y8
    · show g3.2.2.1 78 j = _
      rw [kG 78 (by decide) (by decide) (by decide) (by decide) (by decide) (by decide) (by decide) (by decide) (by decide) (by decide)]; exact y9
  · have hX' := hX
    unfold MX MV MH MPr at hX' ⊢
    show rI g3 49 14 = _ ∧ (∀ v, _ → g3.2.2.1 55 v = _ ∧ (_ → 0 ≤ g3.2.2.1 56 v ∧ g3.2.2.1 56 v ≤ _) ∧ ∀ t o, _ → (_ ↔ _ ∧ g3.2.2.1 56 v ≤ _)) ∧ (∀ k, _ → g3.2.2.1 62 k = _ ∧ (_ → 0 ≤ g3.2.2.1 63 k ∧ g3.2.2.1 63 k ≤ _) ∧ ∀ t o, _ → (_ ↔ _ ∧ g3.2.2.1 63 k ≤ _)) ∧ rI g3 49 23 = _ ∧ ∃ P : List (Nat × Nat × Nat), _ ∧ (∀ i p, _ → g3.2.2.1 65 i = _ ∧ g3.2.2.1 66 i = _ ∧ g3.2.2.1 67 i = _ ∧ _) ∧ _ ∧ _
    rw [k49 14, k49 23, kG 55 (by decide) (by decide) (by decide) (by decide) (by decide) (by decide) (by decide) (by decide) (by decide) (by decide), kG 56 (by decide) (by decide) (by decide) (by decide) (by decide) (by decide) (by decide) (by decide) (by decide) (by decide), kG 62 (by decide) (by decide) (by decide) (by decide) (by decide) (by decide) (by decide) (by decide) (by decide) (by decide), kG 63 (by decide) (by decide) (by decide) (by decide) (by decide) (by decide) (by decide) (by decide) (by decide) (by decide), kG 65 (by decide) (by decide) (by decide) (by decide) (by decide) (by decide) (by decide) (by decide) (by decide) (by decide), kG 66 (by decide) (by decide) (by decide) (by decide) (by decide) (by decide) (by decide) (by decide) (by decide) (by decide), kG 67 (by decide) (by decide) (by decide) (by decide) (by decide) (by decide) (by decide) (by decide) (by decide) (by decide)]
    exact hX'
  · obtain ⟨x40, x79⟩ := xc (Or.inr (Or.inr (by omega)))
    refine ⟨(k49 40).trans x40, ?_⟩
    show RowAt (g3.2.2.1 79) 0 S.crow
    rw [kG 79 (by decide) (by decide) (by decide) (by decide) (by decide) (by decide) (by decide) (by decide) (by decide) (by decide)]; exact x79
  · obtain ⟨y1, y2⟩ := a5
    refine ⟨?_, fun i h hh => ?_⟩
    · show g3.2.2.1 70 S.ass.length = _
      rw [kA 70 (by decide) (by decide) (by decide) (by decide)]; exact y1
    · show g3.2.2.1 69 (40 * S.ass.length + i) = _
      rw [kA 69 (by decide) (by decide) (by decide) (by decide)]; exact y2 i h hh
  · obtain ⟨L, l1, l2, l3⟩ := a6
    refine ⟨L, ?_, fun u p hp => ?_, l3⟩
    · show g3.2.2.1 73 S.ass.length = _
      rw [kA 73 (by decide) (by decide) (by decide) (by decide)]; exact l1
    · show g3.2.2.1 71 (40 * S.ass.length + u) = _ ∧ g3.2.2.1 72 (40 * S.ass.length + u) = _
      rw [kA 71 (by decide) (by decide) (by decide) (by decide), kA 72 (by decide) (by decide) (by decide) (by decide)]; exact l2 u p hp
  · show g3.2.2.1 74 S.ass.length = _
    rw [(b2 74 (by decide)).2.2.1]
    show am_upd (g1.2.2.1 74) S.ass.length _ S.ass.length = _
    rw [updN_at]; rfl
  · show g3.2.2.1 75 S.ass.length = _
    rw [(b2 75 (by decide)).2.2.1]
    show am_upd (g1.2.2.1 75) S.ass.length _ S.ass.length = _
    rw [updN_at]; rfl
  · show g3.2.2.1 76 (40 * S.ass.length + i) = _
    rw [b3, if_pos (by omega)]; rfl
  · have he2 : ([] : List (List Nat × Int64))[r]? = some e := he
    simp at he2
  · unfold WM at hw ⊢
    show rI g3 49 4 = _ ∧ _ ∧ ∀ j l, _ → _ ∧ ∃ b : Nat, g3.2.2.1 51 j = _ ∧ g3.2.2.1 52 j = _ ∧ _ ∧ ∀ i c, _ → g3.2.2.1 50 (b + i) = c
    rw [k49 4, kG 51 (by decide) (by decide) (by decide) (by decide) (by decide) (by decide) (by decide) (by decide) (by decide) (by decide), kG 52 (by decide) (by decide) (by decide) (by decide) (by decide) (by decide) (by decide) (by decide) (by decide) (by decide), kG 50 (by decide) (by decide) (by decide) (by decide) (by decide) (by decide) (by decide) (by decide) (by decide) (by decide)]
    exact hw
