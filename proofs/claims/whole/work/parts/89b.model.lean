/-! ===== the model: an assertion is declared and settled ===== -/
theorem m_settleL (a : Nat) (ha : a < 40) (use : Nat → Nat) (sn : Nat → Bool) (hu : ∀ j, use j ≤ 1000000) : ∀ (d m i : Nat) (g : G2) (f : Bool), i + d = a → d < m → g.2.2.1 78 a = b01 f → (∀ j, j < a → g.2.2.1 78 j = b01 (sn j)) → (∀ j : Nat, j < 40 → g.2.2.1 76 (40 * a + j) = (use j : Int)) → ∃ (g' : G2) (f' : Bool), l_M_settle_50 m 0 (a : Int) (i : Int) g = some g' ∧ KK (fun r => r ≠ 78) g g' ∧ (∀ p : Nat, p ≠ a → g'.2.2.1 78 p = g.2.2.1 78 p) ∧ g'.2.2.1 78 a = b01 f' ∧ (f' = true ↔ f = true ∧ ∀ j, i ≤ j → j < a → use j ≠ 0 → sn j = true) := by
  intro d
  induction d with
  | zero =>
    intro m i g f hi hm h78 hsn h76
    obtain ⟨m, rfl⟩ : ∃ m', m = m' + 1 := ⟨m - 1, by omega⟩
    refine ⟨g, f, ?_, KK.rf, fun _ _ => rfl, h78, ?_⟩
    · rw [s_M_settle_50_0]
      unfold b_M_settle_50_0
      rw [if_pos (by omega), if_pos (by omega), if_neg (by omega)]
    · exact ⟨fun z => ⟨z, fun j h1 h2 => by omega⟩, fun z => z.1⟩
  | succ d ih =>
    intro m i g f hi hm h78 hsn h76
    obtain ⟨m, rfl⟩ : ∃ m', m = m' + 1 := ⟨m - 1, by omega⟩
    have e78 : rA g 78 ((a : Nat) : Int) = b01 f := h78
    have hun := hu i
    have e76 : rA g 76 ((40 * (a : Int)) + (i : Int)) = (use i : Int) := by
      show g.2.2.1 76 ((40 * (a : Int)) + (i : Int)).toNat = _
      rw [show ((40 * (a : Int)) + (i : Int)).toNat = 40 * a + i by omega]; exact h76 i (by omega)
    have e78i : rA g 78 ((i : Nat) : Int) = b01 (sn i) := hsn i (by omega)
    have key : ∀ f1 : Bool, (f1 = true ↔ f = true ∧ (use i ≠ 0 → sn i = true)) → ∃ (g' : G2) (f' : Bool), l_M_settle_50 m 0 (a : Int) ((i : Int) + 1) (gA g 78 (a : Int) (b01 f1)) = some g' ∧ KK (fun r => r ≠ 78) g g' ∧ (∀ p : Nat, p ≠ a → g'.2.2.1 78 p = g.2.2.1 78 p) ∧ g'.2.2.1 78 a = b01 f' ∧ (f' = true ↔ f = true ∧ ∀ j, i ≤ j → j < a → use j ≠ 0 → sn j = true) := by
      intro f1 hf1
      obtain ⟨g', f', c1, c2, c3, c4, c5⟩ := ih m (i + 1) (gA g 78 (a : Int) (b01 f1)) f1 (by omega) (by omega) (updN_at _ _ _) (fun j hj => by
        show am_upd (g.2.2.1 78) a _ j = _
        rw [am_updN (by omega)]; exact hsn j hj) h76
      refine ⟨g', f', c1, (KK.a (by decide) KK.rf).tr c2, fun p hp => (c3 p hp).trans (am_updN hp), c4, ?_⟩
      rw [c5, hf1]
      constructor
      · rintro ⟨⟨z1, z2⟩, z3⟩
        refine ⟨z1, fun j h1 h2 => ?_⟩
        by_cases q : j = i
        · subst q; exact z2
        · exact z3 j (by omega) h2
      · rintro ⟨z1, z2⟩
        exact ⟨⟨z1, z2 i (by omega) (by omega)⟩, fun j h1 h2 => z2 j (by omega) h2⟩
    rw [s_M_settle_50_0]
    unfold b_M_settle_50_0
    rw [if_pos (by omega), if_pos (by omega), if_pos (by omega), if_pos (by omega)]
    rcases Bool.eq_false_or_eq_true f with hf | hf
    · have e1 : rA g 78 ((a : Nat) : Int) = 1 := by rw [e78, hf]; rfl
      rw [e1, if_pos (by decide), if_neg (by decide), if_pos (by omega), e76, if_pos (by omega)]
      by_cases q : use i = 0
      · rw [if_pos (by omega)]
        exact key true (by rw [hf]; simp [q])
      · rw [if_neg (by omega), if_pos (by omega)]
        rcases Bool.eq_false_or_eq_true (sn i) with hs | hs
        · have e2 : rA g 78 ((i : Nat) : Int) = 1 := by rw [e78i, hs]; rfl
          rw [e2, if_pos (by decide), if_neg (by decide)]
          exact key true (by rw [hf]; simp [hs])
        · have e2 : rA g 78 ((i : Nat) : Int) = 0 := by rw [e78i, hs]; rfl
          rw [e2, if_pos (by decide), if_pos (by decide)]
          exact key false (by rw [hf, hs]; simp [q])
    · have e1 : rA g 78 ((a : Nat) : Int) = 0 := by rw [e78, hf]; rfl
      rw [e1, if_pos (by decide), if_pos (by decide)]
      exact key false (by rw [hf]; simp)
theorem m_settle {a : Nat} (ha : a < 40) (use : Nat → Nat) (sn : Nat → Bool) (hu : ∀ j, use j ≤ 1000000) (g : G2) (gap : Bool) (h51 : rI g 49 51 = b01 gap) (hsn : ∀ j, j < a → g.2.2.1 78 j = b01 (sn j)) (h76 : ∀ j : Nat, j < 40 → g.2.2.1 76 (40 * a + j) = (use j : Int)) : ∃ (g' : G2) (f' : Bool), f_M_settle_50 (a : Int) g = some g' ∧ KK (fun r => r ≠ 77 ∧ r ≠ 78) g g' ∧ (∀ p : Nat, p ≠ a → g'.2.2.1 78 p = g.2.2.1 78 p ∧ g'.2.2.1 77 p = g.2.2.1 77 p) ∧ g'.2.2.1 77 a = b01 gap ∧ g'.2.2.1 78 a = b01 f' ∧ (f' = true ↔ gap = false ∧ ∀ j, j < a → use j ≠ 0 → sn j = true) := by
  unfold f_M_settle_50
  have go : ∀ v : Bool, v = !gap → ∃ (g' : G2) (f' : Bool), l_M_settle_50 20000 0 (a : Int) 0 (gA (gA g 77 (a : Int) (b01 gap)) 78 (a : Int) (b01 v)) = some g' ∧ KK (fun r => r ≠ 77 ∧ r ≠ 78) g g' ∧ (∀ p : Nat, p ≠ a → g'.2.2.1 78 p = g.2.2.1 78 p ∧ g'.2.2.1 77 p = g.2.2.1 77 p) ∧ g'.2.2.1 77 a = b01 gap ∧ g'.2.2.1 78 a = b01 f' ∧ (f' = true ↔ gap = false ∧ ∀ j, j < a → use j ≠ 0 → sn j = true) := by
    intro v hv
    obtain ⟨g', f', c1, c2, c3, c4, c5⟩ := m_settleL a ha use sn hu a 20000 0 (gA (gA g 77 (a : Int) (b01 gap)) 78 (a : Int) (b01 v)) v (by omega) (by omega) (updN_at _ _ _) (fun j hj => by
      show am_upd (g.2.2.1 78) a _ j = _
      rw [am_updN (by omega)]; exact hsn j hj) h76
    refine ⟨g', f', c1, ?_, fun p hp => ⟨(c3 p hp).trans (am_updN hp), ?_⟩, ?_, c4, ?_⟩
    · intro r hr
      obtain ⟨z1, z2, z3, z4⟩ := c2 r hr.2
      refine ⟨z1, z2, z3.trans ?_, z4⟩
      show am_upd (am_upd g.2.2.1 77 _) 78 _ r = _
      rw [am_updN hr.2, am_updN hr.1]
    · rw [(c2 77 (by decide)).2.2.1]; exact am_updN hp
    · rw [(c2 77 (by decide)).2.2.1]; exact updN_at _ _ _
    · rw [c5, hv]
      constructor
      · rintro ⟨z1, z2⟩; exact ⟨by revert z1; cases gap <;> simp, fun j hj => z2 j (by omega) hj⟩
      · rintro ⟨z1, z2⟩; exact ⟨by rw [z1]; rfl, fun j _ hj => z2 j hj⟩
  rw [if_pos (by omega), h51, if_pos (by cases gap <;> decide), if_pos (b01_ir _)]
  rcases Bool.eq_false_or_eq_true gap with hg | hg
  · rw [if_neg (by rw [hg]; decide)]; exact go false (by rw [hg]; rfl)
  · rw [if_pos (by rw [hg]; decide)]; exact go true (by rw [hg]; rfl)
theorem m_declAs {S P T : RSt} {g : G2} {n : Nat} (hK : MKm S g) (hX : MX S g) (hi : Iv S) (hst : 4 ≤ S.stage) (hk : 2 ≤ S.ckind) (hk3 : S.ckind ≤ 3) (h40 : rI g 49 40 = (S.crow.length : Int)) (h79 : RowAt (g.2.2.1 79) 0 S.crow) (h24 : S.crow.length ≤ 24) (e1 : P.1 = S.1) (e2 : P.2.1 = S.2.1) (e3 : P.clab = S.clab) (e4 : P.ckind = S.ckind) (e5 : P.crow = S.crow) (e6 : P.cvs = S.cvs) (hP : MPf0 P g) (hstm : P.ca.stm = P.sms.length) (hinc : P.ca.inc = P.gap) (hsnd : P.ca.snd = true ↔ P.gap = false ∧ ∀ j, j < P.ass.length → P.ca.use j ≠ 0 → sndS P j = true) (hub : UB P n) (hn : n ≤ 1000000) (hT : declareS P = .ok T) :
    ∃ g40 g45, f_M_declare_50 ((S.ckind : Int) + 4) S.clab g = some ((S.sms.length : Int), g40) ∧ f_M_settle_50 (S.ass.length : Int) (gA (gA g40 64 (S.sms.length : Int) (S.ass.length : Int)) 68 (S.ass.length : Int) (S.sms.length : Int)) = some g45 ∧ MRep T (gI g45 49 27 ((rI g45 49 27) + 1)) ∧ (∀ ws, WM g ws → WM (gI g45 49 27 ((rI g45 49 27) + 1)) ws) ∧ (∀ k, k ≠ 8 → k ≠ 15 → rI g45 49 k = rI g 49 k) := by
  obtain ⟨hN, hS, hA⟩ := hK
  obtain ⟨n60, m40, _⟩ := hi.2.2.2.2.2.2.1.1 hst
  have ha : S.ass.length < 40 := by have := hi.1.2.2.1; omega
  have p1 : P.nms = S.nms := by rw [show P.nms = P.1.1 from rfl, e1]
  have p2 : P.sms = S.sms := by rw [show P.sms = P.1.2.2.2.1 from rfl, e1]
  have p3 : P.ass = S.ass := by rw [show P.ass = P.1.2.2.2.2 from rfl, e1]
  have p4 : P.vars = S.vars := by rw [show P.vars = P.2.1.1 from rfl, e2]
  have p5 : P.hyps = S.hyps := by rw [show P.hyps = P.2.1.2.2.1 from rfl, e2]
  have p6 : P.prs = S.prs := by rw [show P.prs = P.2.1.2.2.2.1 from rfl, e2]
  have p7 : P.out = S.out := by rw [show P.out = P.2.1.2.2.2.2 from rfl, e2]
  unfold declareS at hT
  injection hT with hT
  have t1 : T.nms = S.nms ++ [(S.clab, 2, S.sms.length)] := by rw [← hT]; show P.nms ++ [(P.clab, 2, P.sms.length)] = _; rw [p1, e3, p2]
  have t2 : T.sms = S.sms ++ [(S.clab, S.ckind, S.crow, S.cvs, P.cmand, S.ass.length)] := by rw [← hT]; show P.sms ++ [(P.clab, P.ckind, P.crow, P.cvs, P.cmand, P.ass.length)] = _; rw [p2, e3, e4, e5, e6, p3]
  have t2c : T.cmand = P.cmand := by rw [← hT]
  have t3 : T.ass = S.ass ++ [P.ca] := by rw [← hT]; show (if P.ckind ≤ 1 then P.ass else P.ass ++ [P.ca]) = _; rw [if_neg (by omega), p3]
  have t4 : T.hyps = if S.ckind ≤ 1 then S.hyps ||| bit S.sms.length else S.hyps := by rw [← hT]; show (if P.ckind ≤ 1 then P.hyps ||| bit P.sms.length else P.hyps) = _; rw [e4, p5, p2]
  have t5 : T.stage = 0 := by rw [← hT]
  obtain ⟨g40, a1, a2, a3, a4, a5, a6, a7⟩ := m_declare hN hS hX hi n60 m40 hk3 h40 h79 h24 T t1 (by rw [t2, t2c]) (by rw [← hT]; exact p4) t4 (by rw [← hT]; exact p6) (by rw [← hT]; exact p7)
  obtain ⟨⟨xn, xp⟩, ⟨x74, x75, x76⟩, x45, x82, x51⟩ := hP
  rw [p2, p3] at xn
  rw [p3] at xp x74 x75 x76
  obtain ⟨b1, b2⟩ := a2
  have bb : ∀ r, 65 ≤ r → g40.2.2.1 r = g.2.2.1 r := fun r hr => b1 r (by omega) (by omega) (by omega) (by omega) (by omega) (by omega) (by omega) (by omega) (by omega) (by omega) (by omega)
  obtain ⟨g45, f', c1, c2, c3, c4, c5, c6⟩ := m_settle ha P.ca.use (fun j => sndS S j) (fun j => Nat.le_trans (hub.2 j) hn) (gA (gA g40 64 (S.sms.length : Int) (S.ass.length : Int)) 68 (S.ass.length : Int) (S.sms.length : Int)) P.gap ((b2 51 (by decide) (by decide)).trans x51) (fun j hj => by
    show g40.2.2.1 78 j = _
    rw [bb 78 (by decide)]
    obtain ⟨x, hx⟩ := ex_get hj
    rw [snd_get hx]; exact (hA.2 j x hx).2.2.2.2.2.2.2) (fun j hj => by
    show g40.2.2.1 76 _ = _
    rw [bb 76 (by decide)]; exact x76 j hj)
  have cc : ∀ r, r ≠ 64 → r ≠ 68 → r ≠ 77 → r ≠ 78 → g45.2.2.1 r = g40.2.2.1 r := fun r h1 h2 h3 h4 => by
    rw [(c2 r ⟨h3, h4⟩).2.2.1]
    show am_upd (am_upd g40.2.2.1 64 _) 68 _ r = _
    rw [am_updN h2, am_updN h1]
  have c49 : g45.1 49 = g40.1 49 := (c2 49 (by decide)).1
  have c53 : g45.2.2.2 53 = g40.2.2.2 53 := (c2 53 (by decide)).2.2.2
  have c64 : g45.2.2.1 64 = am_upd (g40.2.2.1 64) S.sms.length (S.ass.length : Int) := by rw [(c2 64 (by decide)).2.2.1]; rfl
  have c68 : g45.2.2.1 68 = am_upd (g40.2.2.1 68) S.ass.length (S.sms.length : Int) := by rw [(c2 68 (by decide)).2.2.1]; rfl
  refine ⟨g40, g45, a1, c1, ⟨⟨?_, ⟨?_, fun k s hks => ?_⟩, ⟨?_, fun j x hx => ?_⟩⟩, ?_, fun z => by omega, fun z => by omega, fun z => by omega, fun z => by omega⟩, fun ws hW => ?_, fun k h1 h2 => (congrFun c49 k).trans (b2 k h1 h2)⟩
  · obtain ⟨d1, d2⟩ := a3
    refine ⟨(congrFun c49 8).trans d1, fun i x hx => ?_⟩
    show g45.2.2.2 53 i = _ ∧ g45.2.2.1 54 i = _ ∧ g45.2.2.1 57 i = _
    rw [c53, cc 54 (by decide) (by decide) (by decide) (by decide), cc 57 (by decide) (by decide) (by decide) (by decide)]
    exact d2 i x hx
  · exact (congrFun c49 15).trans a5.1
  · obtain ⟨w1, w2, w3, w4⟩ := a5.2 k s hks
    show g45.2.2.1 58 k = _ ∧ (∃ (d : Nat) (x : RNm), T.nms[d]? = some x ∧ g45.2.2.1 59 k = (d : Int) ∧ x.code = s.lab) ∧ g45.2.2.1 61 k = _ ∧ RowAt (g45.2.2.1 60) _ _ ∧ g45.2.2.1 64 k = _
    rw [cc 58 (by decide) (by decide) (by decide) (by decide), cc 59 (by decide) (by decide) (by decide) (by decide), cc 61 (by decide) (by decide) (by decide) (by decide), cc 60 (by decide) (by decide) (by decide) (by decide), c64]
    refine ⟨w1, w2, w3, w4, ?_⟩
    rw [t2] at hks
    rcases ap_get hks with ⟨z1, z2⟩ | ⟨z1, z2⟩
    · rw [am_updN (by omega), a6 k z1]; exact (hS.2 k s z2).2.2.2.2
    · subst z1; subst z2
      rw [updN_at, if_pos (show 2 ≤ S.ckind from hk)]
  · show rI g45 49 27 + 1 = _
    rw [t3, show rI g45 49 27 = rI g 49 27 from (congrFun c49 27).trans (b2 27 (by decide) (by decide)), hA.1]
    exact len1 _ _
  · rw [t3] at hx
    show g45.2.2.1 68 j = _ ∧ (∃ s, T.sms[x.stm]? = some s ∧ g45.2.2.1 70 j = _ ∧ ∀ (i h : Nat), (hsOf x.stm s.mand)[i]? = some h → g45.2.2.1 69 (40 * j + i) = (h : Int)) ∧ (∃ L : List (Nat × Nat), g45.2.2.1 73 j = (L.length : Int) ∧ (∀ (u : Nat) (p : Nat × Nat), L[u]? = some p → g45.2.2.1 71 (40 * j + u) = (p.1 : Int) ∧ g45.2.2.1 72 (40 * j + u) = (p.2 : Int)) ∧ (L.map nrm).Nodup ∧ ∀ p, p ∈ L.map nrm ↔ p ∈ x.prs) ∧ g45.2.2.1 74 j = _ ∧ g45.2.2.1 75 j = _ ∧ (∀ i : Nat, i < 40 → g45.2.2.1 76 (40 * j + i) = (x.use i : Int)) ∧ g45.2.2.1 77 j = _ ∧ g45.2.2.1 78 j = _
    rw [c68, cc 70 (by decide) (by decide) (by decide) (by decide), cc 69 (by decide) (by decide) (by decide) (by decide), cc 73 (by decide) (by decide) (by decide) (by decide), cc 71 (by decide) (by decide) (by decide) (by decide), cc 72 (by decide) (by decide) (by decide) (by decide), cc 74 (by decide) (by decide) (by decide) (by decide), cc 75 (by decide) (by decide) (by decide) (by decide), cc 76 (by decide) (by decide) (by decide) (by decide), bb 68 (by decide), bb 69 (by decide), bb 70 (by decide), bb 71 (by decide), bb 72 (by decide), bb 73 (by decide), bb 74 (by decide), bb 75 (by decide), bb 76 (by decide)]
    rcases ap_get hx with ⟨z1, z2⟩ | ⟨z1, z2⟩
    · obtain ⟨y1, ⟨s, y2, y3⟩, y4, y5, y6, y7, y8, y9⟩ := hA.2 j x z2
      refine ⟨by rw [am_updN (by omega)]; exact y1, ⟨s, by rw [t2]; exact app_ext _ _ _ s y2, y3⟩, y4, y5, y6, y7, ?_, ?_⟩
      · rw [(c3 j (by omega)).2]
        show g40.2.2.1 77 j = _
        rw [bb 77 (by decide)]; exact y8
      · rw [(c3 j (by omega)).1]
        show g40.2.2.1 78 j = _
        rw [bb 78 (by decide)]; exact y9
    · subst z1; subst z2
      have hs2 : P.ca.stm = S.sms.length := by rw [hstm, p2]
      refine ⟨by rw [updN_at, hs2], ⟨(S.clab, S.ckind, S.crow, S.cvs, P.cmand, S.ass.length), ?_, ?_⟩, xp, x74, x75, x76, ?_, ?_⟩
      · rw [t2, hs2, List.getElem?_append_right (Nat.le_refl _), Nat.sub_self]; rfl
      · rw [hs2]; exact xn
      · rw [c4, hinc]
      · rw [c5]
        have : f' = P.ca.snd := by
          rw [p3] at hsnd
          have hss : (P.gap = false ∧ ∀ j, j < S.ass.length → P.ca.use j ≠ 0 → sndS P j = true) ↔ (P.gap = false ∧ ∀ j, j < S.ass.length → P.ca.use j ≠ 0 → sndS S j = true) := by
            unfold sndS; rw [p3]
          rw [hss] at hsnd
          cases h1 : f' <;> cases h2 : P.ca.snd
          · rfl
          · exact absurd (c6.mpr (hsnd.mp h2)) (by rw [h1]; decide)
          · exact absurd (hsnd.mpr (c6.mp h1)) (by rw [h2]; decide)
          · rfl
        rw [this]
  · unfold MX MV MH MPr at a4 ⊢
    show rI g45 49 14 = _ ∧ (∀ v : Nat, v < T.nms.length → g45.2.2.1 55 v = _ ∧ (_ → 0 ≤ g45.2.2.1 56 v ∧ g45.2.2.1 56 v ≤ _) ∧ ∀ (t : Nat) (o : Int64 × Int64 × Int64 × Nat), T.out[t]? = some o → (_ ↔ _ ∧ g45.2.2.1 56 v ≤ _)) ∧ (∀ k : Nat, k < T.sms.length → g45.2.2.1 62 k = _ ∧ (_ → 0 ≤ g45.2.2.1 63 k ∧ g45.2.2.1 63 k ≤ _) ∧ ∀ (t : Nat) (o : Int64 × Int64 × Int64 × Nat), T.out[t]? = some o → (_ ↔ _ ∧ g45.2.2.1 63 k ≤ _)) ∧ rI g45 49 23 = _ ∧ ∃ P : List (Nat × Nat × Nat), P.length = T.prs.length ∧ (∀ (i : Nat) (p : Nat × Nat × Nat), P[i]? = some p → g45.2.2.1 65 i = _ ∧ g45.2.2.1 66 i = _ ∧ g45.2.2.1 67 i = _ ∧ _) ∧ _
    rw [cc 55 (by decide) (by decide) (by decide) (by decide), cc 56 (by decide) (by decide) (by decide) (by decide), cc 62 (by decide) (by decide) (by decide) (by decide), cc 63 (by decide) (by decide) (by decide) (by decide), cc 65 (by decide) (by decide) (by decide) (by decide), cc 66 (by decide) (by decide) (by decide) (by decide), cc 67 (by decide) (by decide) (by decide) (by decide), show rI g45 49 14 = rI g40 49 14 from congrFun c49 14, show rI g45 49 23 = rI g40 49 23 from congrFun c49 23]
    exact a4
  · obtain ⟨w1, w2, w3⟩ := hW
    refine ⟨((congrFun c49 4).trans (b2 4 (by decide) (by decide))).trans w1, w2, fun j l hj => ?_⟩
    show WdOk l ∧ ∃ b : Nat, g45.2.2.1 51 j = (b : Int) ∧ g45.2.2.1 52 j = _ ∧ _ ∧ ∀ i c, l[i]? = some c → g45.2.2.1 50 (b + i) = c
    have bl : ∀ r, r < 53 → g40.2.2.1 r = g.2.2.1 r := fun r hr => b1 r (by omega) (by omega) (by omega) (by omega) (by omega) (by omega) (by omega) (by omega) (by omega) (by omega) (by omega)
    rw [cc 50 (by decide) (by decide) (by decide) (by decide), cc 51 (by decide) (by decide) (by decide) (by decide), cc 52 (by decide) (by decide) (by decide) (by decide), bl 50 (by decide), bl 51 (by decide), bl 52 (by decide)]
    exact w3 j l hj
