/-! ===== the model: a step of a proof ===== -/
def StpR (S : RSt) (g : G2) (o : Option G2) : RS → Prop
  | .error f => ∃ g', o = some g' ∧ SK S.ass.length g g' ∧ rI g' 49 6 = f ∧ rI g' 49 7 = rI g 49 5 ∧ -12 < f ∧ f < 0
  | .ok S' => ∃ g', o = some g' ∧ SK S.ass.length g g' ∧ rI g' 49 6 = 0 ∧ rI g' 49 7 = rI g 49 7 ∧ MRep S' g'
theorem SK.fail {a : Nat} {g : G2} {f p : Int} : SK a g (gI (gI g 49 6 f) 49 7 p) := by
  refine ⟨fun _ _ _ _ _ _ _ _ => rfl, rfl, fun k h1 h2 h3 => ?_, fun _ _ => ⟨rfl, rfl⟩, fun _ _ => rfl⟩
  show am_upd (am_upd g.1 49 (am_upd (g.1 49) 6 f)) 49 (am_upd (am_upd g.1 49 (am_upd (g.1 49) 6 f) 49) 7 p) 49 k = _
  rw [updN_at, am_updN h3, updN_at, am_updN h2]
theorem SK.push {a H : Nat} {g g1 : G2} {v w : Int} (k : KK (fun r => r ≠ 82) g g1) : SK a g (gI (gA g1 83 (H : Int) v) 49 45 w) := by
  refine ⟨fun r h1 h2 h3 h4 h5 h6 h7 => ?_, (k 53 (by decide)).2.2.2, fun q h1 h2 h3 => ?_, fun p hp => ⟨?_, ?_⟩, fun p hp => ?_⟩
  · exact (am_updN h5).trans (k r h4).2.2.1
  · show am_upd g1.1 49 (am_upd (g1.1 49) 45 w) 49 q = _
    rw [updN_at, am_updN h1]; exact congrFun (k 49 (by decide)).1 q
  · show g1.2.2.1 74 p = _
    rw [(k 74 (by decide)).2.2.1]
  · show g1.2.2.1 75 p = _
    rw [(k 75 (by decide)).2.2.1]
  · show g1.2.2.1 76 p = _
    rw [(k 76 (by decide)).2.2.1]
theorem hi9_stm {S : RSt} (hi : Iv S) {k : Nat} {s : RSm} {x : RAs} (hk : S.sms[k]? = some s) (h2 : 2 ≤ s.kind) (hx : S.ass[s.asn]? = some x) : x.stm = k := by
  obtain ⟨_, _, _, _, _, _, _, h⟩ := hi.2.2.2.2.2.2.2.2.2 s.asn x hx
  exact (h k s hk h2 rfl).symm
/-- push and tally: a row from src -/
theorem m_put {S : RSt} {g : G2} (hR : MRep S g) (hs : 10 ≤ S.stage) (ha : S.ass.length < 40) (hh : S.ca.hgt ≤ 16) (h16 : S.stk.length ≤ 16) (h24 : ∀ e ∈ S.stk, e.1.length ≤ 24) (h6 : rI g 49 6 = 0) (e : List Nat × Int64) (F : G2 → Option G2) (hF : S.stk.length < 16 → ∃ g', F g = some (gI (gA g' 83 (S.stk.length : Int) (e.1.length : Int)) 49 45 ((S.stk.length : Int) + 1)) ∧ KK (fun r => r ≠ 82) g g' ∧ RowAt (g'.2.2.1 82) (24 * S.stk.length) e.1 ∧ ∀ p : Nat, p < 24 * S.stk.length → g'.2.2.1 82 p = g.2.2.1 82 p) : StpR S g ((bd (f_M_hasRoom_50 g) fun r1 g1 => if ir r1 then if r1 = 0 then some g1 else F g1 else none).bind fun g6 => f_M_tally_50 (S.ass.length : Int) g6) (putS S e) := by
  obtain ⟨⟨_, ⟨x74, x75, x76⟩, x45, x82, _⟩, _⟩ := hR.2.2.2.2.1 hs
  unfold putS f_M_hasRoom_50
  rw [if_pos (by omega)]
  by_cases q : 16 ≤ S.stk.length
  · have e45 : rI (gI (gI g 49 6 (-7)) 49 7 (rI g 49 5)) 49 45 = 16 := by show rI g 49 45 = 16; omega
    rw [if_pos (by omega), m_fail0 h6, Option.bind_some, e45, if_pos (by decide), if_neg (by decide), if_pos q]
    have ht := m_tally (g := gI (gI g 49 6 (-7)) 49 7 (rI g 49 5)) (a := S.ass.length) (h := 16) (x := S.ca.hgt) ha (by decide) (by omega) e45 x75
    have hres : (some (gI (gI g 49 6 (-7)) 49 7 (rI g 49 5))).bind (fun g6 => f_M_tally_50 (S.ass.length : Int) g6) = some (gA (gA (gI (gI g 49 6 (-7)) 49 7 (rI g 49 5)) 74 (S.ass.length : Int) ((rA (gI (gI g 49 6 (-7)) 49 7 (rI g 49 5)) 74 (S.ass.length : Int)) + 1)) 75 (S.ass.length : Int) ((max S.ca.hgt 16 : Nat) : Int)) := by rw [Option.bind_some, ht]
    exact ⟨_, hres, SK.fail.tr SK.tally, rfl, rfl, by decide, by decide⟩
  · obtain ⟨g1, b1, b2, b3, b4⟩ := hF (by omega)
    rw [if_neg (by omega), if_pos (by omega), if_neg q]
    have e45 : rI (gI (gA g1 83 (S.stk.length : Int) (e.1.length : Int)) 49 45 ((S.stk.length : Int) + 1)) 49 45 = ((S.stk.length + 1 : Nat) : Int) := rfl
    have e75 : (gI (gA g1 83 (S.stk.length : Int) (e.1.length : Int)) 49 45 ((S.stk.length : Int) + 1)).2.2.1 75 S.ass.length = (S.ca.hgt : Int) := by
      show g1.2.2.1 75 S.ass.length = _
      rw [(b2 75 (by decide)).2.2.1]; exact x75
    have ht := m_tally (a := S.ass.length) ha (by omega) (by omega) e45 e75
    have sk := (SK.push (a := S.ass.length) (H := S.stk.length) (v := (e.1.length : Int)) (w := (S.stk.length : Int) + 1) b2).tr (SK.tally (a := S.ass.length) (v := (rA (gI (gA g1 83 (S.stk.length : Int) (e.1.length : Int)) 49 45 ((S.stk.length : Int) + 1)) 74 (S.ass.length : Int)) + 1) (w := ((max S.ca.hgt (S.stk.length + 1) : Nat) : Int)))
    have hres : (if ir (1 : Int) then if (1 : Int) = 0 then some g else F g else none).bind (fun g6 => f_M_tally_50 (S.ass.length : Int) g6) = some (gA (gA (gI (gA g1 83 (S.stk.length : Int) (e.1.length : Int)) 49 45 ((S.stk.length : Int) + 1)) 74 (S.ass.length : Int) ((rA (gI (gA g1 83 (S.stk.length : Int) (e.1.length : Int)) 49 45 ((S.stk.length : Int) + 1)) 74 (S.ass.length : Int)) + 1)) 75 (S.ass.length : Int) ((max S.ca.hgt (S.stk.length + 1) : Nat) : Int)) := by rw [if_pos (by decide), if_neg (by decide), b1, Option.bind_some, ht]
    refine ⟨_, hres, sk, ?_, ?_, sk.rep hR hs rfl rfl rfl rfl rfl rfl ⟨?_, ?_, fun i hi => ?_⟩ ?_ ?_⟩
    · exact (congrFun (b2 49 (by decide)).1 6).trans h6
    · exact congrFun (b2 49 (by decide)).1 7
    · show am_upd (g1.2.2.1 74) S.ass.length (g1.2.2.1 74 S.ass.length + 1) S.ass.length = _
      rw [updN_at, (b2 74 (by decide)).2.2.1, x74]; exact nat1 _
    · show am_upd (g1.2.2.1 75) S.ass.length _ S.ass.length = _
      rw [updN_at]
    · show g1.2.2.1 76 _ = _
      rw [(b2 76 (by decide)).2.2.1]; exact x76 i hi
    · show ((S.stk.length : Int) + 1) = ((S.stk ++ [e]).length : Int)
      exact len1 _ _
    · have := stk_push (g := g) (g1 := g1) (e := e) x82 h24 (Nat.le_refl _) (b2 83 (by decide)).2.2.1 b3 b4
      rw [List.take_length] at this
      exact this
/-- an assertion is used: its use is counted, and the step -/
theorem m_used {S : RSt} {g : G2} (hR : MRep S g) (hi : Iv S) (hs : 10 ≤ S.stage) (ha : S.ass.length < 40) (hh : S.ca.hgt ≤ 16) (h16 : S.stk.length ≤ 16) (h24 : ∀ e ∈ S.stk, e.1.length ≤ 24) (h6 : rI g 49 6 = 0) {k : Nat} {s : RSm} (hks : S.sms[k]? = some s) (hk2 : 2 ≤ s.kind) (hj : s.asn < 40) (b : Nat) (hb : b ≤ S.stk.length) (hb16 : b < 16) (e : List Nat × Int64) (g2 g3 : G2) (hkk : S67 g g2) (f2 : KK (fun r => r ≠ 82) g2 g3) (f3 : RowAt (g3.2.2.1 82) (24 * b) e.1) (f4 : ∀ p : Nat, p < 24 * b → g3.2.2.1 82 p = g2.2.2.1 82 p) (hA8 : f_M_apply_50 (s.asn : Int) g = some (0, (gI (gA g3 83 (b : Int) (e.1.length : Int)) 49 45 ((b : Int) + 1)))) : StpR S g (bd (f_M_apply_50 (s.asn : Int) g) fun r8 g8 => if ir r8 then if r8 = 0 then if 0 ≤ ((40 * (S.ass.length : Int)) + (rA g8 64 (k : Int))) ∧ ((40 * (S.ass.length : Int)) + (rA g8 64 (k : Int))) < 1640 then (f_M_tally_50 (S.ass.length : Int) (gA g8 76 ((40 * (S.ass.length : Int)) + (rA g8 64 (k : Int))) ((rA g8 76 ((40 * (S.ass.length : Int)) + (rA g8 64 (k : Int)))) + 1))).bind fun g12 => some g12 else none else (f_M_fail_50 r8 (rI g8 49 5) g8).bind fun g13 => if 0 ≤ ((40 * (S.ass.length : Int)) + (rA g13 64 (k : Int))) ∧ ((40 * (S.ass.length : Int)) + (rA g13 64 (k : Int))) < 1640 then (f_M_tally_50 (S.ass.length : Int) (gA g13 76 ((40 * (S.ass.length : Int)) + (rA g13 64 (k : Int))) ((rA g13 76 ((40 * (S.ass.length : Int)) + (rA g13 64 (k : Int)))) + 1))).bind fun g15 => some g15 else none else none) (.ok ((((S.uStk (S.stk.take b)).uCa ((S.ca.uUse (am_upd S.ca.use s.asn (S.ca.use s.asn + 1))).uSnd (S.ca.snd && sndS S s.asn))).uStk (S.stk.take b ++ [e])).uCa ((((S.ca.uUse (am_upd S.ca.use s.asn (S.ca.use s.asn + 1))).uSnd (S.ca.snd && sndS S s.asn)).uStp (S.ca.stp + 1)).uHgt (max S.ca.hgt (b + 1))))) := by
  obtain ⟨⟨⟨_, _⟩, ⟨x74, x75, x76⟩, x45, x82, x51⟩, _⟩ := hR.2.2.2.2.1 hs
  have w5 := (hR.1.2.1.2 k s hks).2.2.2.2
  rw [if_pos hk2] at w5
  obtain ⟨G8, hG8⟩ : ∃ G, G = gI (gA g3 83 (b : Int) (e.1.length : Int)) 49 45 ((b : Int) + 1) := ⟨_, rfl⟩
  rw [← hG8] at hA8
  have sk8 : SK S.ass.length g G8 := by rw [hG8]; exact (hkk.sk).tr (SK.push f2)
  have e45 : rI G8 49 45 = ((b + 1 : Nat) : Int) := by rw [hG8]; rfl
  have e64 : rA G8 64 ((k : Nat) : Int) = (s.asn : Int) := by
    show G8.2.2.1 64 k = _
    rw [sk8.1 64 (by decide) (by decide) (by decide) (by decide) (by decide) (by decide) (by decide)]; exact w5
  have g3k : ∀ r, r ≠ 82 → r ≠ 86 → r ≠ 87 → g3.2.2.1 r = g.2.2.1 r := fun r h1 h2 h3 => ((f2 r h1).2.2.1).trans (hkk r ⟨h2, h3⟩).2.2.1
  have e8 : ∀ r, r ≠ 83 → G8.2.2.1 r = g3.2.2.1 r := fun r h1 => by rw [hG8]; exact am_updN h1
  have e75 : G8.2.2.1 75 S.ass.length = (S.ca.hgt : Int) := by rw [e8 75 (by decide), g3k 75 (by decide) (by decide) (by decide)]; exact x75
  have e74 : G8.2.2.1 74 S.ass.length = (S.ca.stp : Int) := by rw [e8 74 (by decide), g3k 74 (by decide) (by decide) (by decide)]; exact x74
  have e76 : ∀ i : Nat, i < 40 → G8.2.2.1 76 (40 * S.ass.length + i) = (S.ca.use i : Int) := fun i hi => by rw [e8 76 (by decide), g3k 76 (by decide) (by decide) (by decide)]; exact x76 i hi
  have hp40 : ((40 * (S.ass.length : Int)) + (s.asn : Int)).toNat = 40 * S.ass.length + s.asn := by omega
  have er76 : rA G8 76 ((40 * (S.ass.length : Int)) + (s.asn : Int)) = (S.ca.use s.asn : Int) := by
    show G8.2.2.1 76 ((40 * (S.ass.length : Int)) + (s.asn : Int)).toNat = _
    rw [hp40]; exact e76 _ hj
  have ht := m_tally (g := gA G8 76 ((40 * (S.ass.length : Int)) + (s.asn : Int)) ((S.ca.use s.asn : Int) + 1)) (a := S.ass.length) (h := b + 1) (x := S.ca.hgt) ha (by omega) (by omega) e45 e75
  have sku : SK S.ass.length G8 (gA G8 76 ((40 * (S.ass.length : Int)) + (s.asn : Int)) ((S.ca.use s.asn : Int) + 1)) := ⟨fun r h1 h2 h3 h4 h5 h6 h7 => am_updN h3, rfl, fun _ _ _ _ => rfl, fun _ _ => ⟨rfl, rfl⟩, fun p hp => by
    show am_upd (G8.2.2.1 76) ((40 * (S.ass.length : Int)) + (s.asn : Int)).toNat _ p = G8.2.2.1 76 p
    rw [hp40, am_updN (by omega)]⟩
  have sk := sk8.tr (sku.tr (SK.tally (a := S.ass.length) (v := (rA (gA G8 76 ((40 * (S.ass.length : Int)) + (s.asn : Int)) ((S.ca.use s.asn : Int) + 1)) 74 (S.ass.length : Int)) + 1) (w := ((max S.ca.hgt (b + 1) : Nat) : Int))))
  rw [bd_some hA8, if_pos (by decide), if_pos rfl, e64, if_pos (by omega), er76, ht, Option.bind_some]
  refine ⟨_, rfl, sk, ?_, ?_, sk.rep hR hs rfl rfl rfl rfl rfl rfl ⟨?_, ?_, fun i hi => ?_⟩ ?_ ?_⟩
  · show rI G8 49 6 = 0
    rw [hG8]
    show rI g3 49 6 = 0
    rw [show rI g3 49 6 = rI g2 49 6 from congrFun (f2 49 (by decide)).1 6, show rI g2 49 6 = rI g 49 6 from congrFun (hkk 49 (by decide)).1 6]; exact h6
  · show rI G8 49 7 = _
    rw [hG8]
    show rI g3 49 7 = _
    rw [show rI g3 49 7 = rI g2 49 7 from congrFun (f2 49 (by decide)).1 7]
    exact congrFun (hkk 49 (by decide)).1 7
  · show am_upd (G8.2.2.1 74) S.ass.length (G8.2.2.1 74 S.ass.length + 1) S.ass.length = _
    rw [updN_at, e74]; exact nat1 _
  · show am_upd (G8.2.2.1 75) S.ass.length _ S.ass.length = _
    rw [updN_at]
  · show am_upd (G8.2.2.1 76) ((40 * (S.ass.length : Int)) + (s.asn : Int)).toNat _ (40 * S.ass.length + i) = ((am_upd S.ca.use s.asn (S.ca.use s.asn + 1) i : Nat) : Int)
    rw [hp40]
    by_cases q : i = s.asn
    · subst q; rw [updN_at, updN_at]; exact nat1 _
    · rw [am_updN (by omega), am_updN q]; exact e76 i hi
  · show rI G8 49 45 = ((S.stk.take b ++ [e]).length : Int)
    rw [e45, List.length_append, List.length_take, Nat.min_eq_left hb]; rfl
  · show StkM (G8.2.2.1 82) (G8.2.2.1 83) (S.stk.take b ++ [e])
    rw [hG8]
    exact stk_push (g := g2) (g1 := g3) (e := e) (by rw [(hkk 82 (by decide)).2.2.1, (hkk 83 (by decide)).2.2.1]; exact x82) h24 hb (f2 83 (by decide)).2.2.1 f3 f4
theorem m_step {S : RSt} {g : G2} (hR : MRep S g) (hi : Iv S) (hs : 10 ≤ S.stage) (k : Nat) (hk : k < S.sms.length) (h6 : rI g 49 6 = 0) : StpR S g (f_M_step_50 (S.ass.length : Int) (k : Int) g) (stepWithS S k) := by
  have m40 : S.sms.length < 40 := (hi.2.2.2.2.2.2.1.1 (by omega)).2.1
  have n60 := hi.1.1
  obtain ⟨_, ha, hh, h16, h24⟩ := hi.pu hs
  obtain ⟨_, _, _, _, _, iSt, _⟩ := hi.2.2.2.2.2.2.2.1 hs
  obtain ⟨⟨⟨_, _⟩, ⟨x74, x75, x76⟩, x45, x82, x51⟩, _⟩ := hR.2.2.2.2.1 hs
  obtain ⟨s, hks⟩ := ex_get hk
  obtain ⟨z1, z2, z3, z4, z5⟩ := hi.2.2.1 k s hks
  obtain ⟨w1, w2, w3, w4, w5⟩ := hR.1.2.1.2 k s hks
  have e64 : rA g 64 ((k : Nat) : Int) = (if 2 ≤ s.kind then (s.asn : Int) else -1) := w5
  unfold f_M_step_50 stepWithS
  rw [x51, if_pos (b01_ir _), hks]
  cases hg : S.gap with
  | true =>
    rw [if_neg (by decide), if_pos rfl]
    exact ⟨g, rfl, SK.rf, h6, rfl, hR⟩
  | false =>
    rw [if_pos (by decide), if_neg (show ¬ false = true by decide), if_pos (by omega), e64]
    show StpR S g _ (if s.kind ≤ 1 then putS S (s.row, s.vs) else if S.stk.length < (hsOf k s.mand).length then .error (-9) else match bindS S (hsOf k s.mand) (S.stk.length - (hsOf k s.mand).length) (fun _ => 0) with | none => .error (-10) | some σ => useS S k s (S.stk.length - (hsOf k s.mand).length) σ)
    by_cases hk1 : s.kind ≤ 1
    · rw [if_neg (show ¬ 2 ≤ s.kind by omega), if_pos (by decide), if_pos (by decide), if_pos hk1]
      have hp := m_put hR hs ha hh h16 h24 h6 (s.row, s.vs) (fun g1 => l_M_pushHypothesis_50 20000 0 (k : Int) 0 g1) (fun hlt => m_pushHL k S.stk.length s.row (by omega) hlt z2.2.1 s.row.length 20000 0 g (by omega) (by have := z2.2.1; omega) x45 w3 w4 (by rw [List.take_zero]; exact RowAt.nil _ _))
      have hfun : ((f_M_pushHypothesis_50 (k : Int) g).bind fun g6 => (f_M_tally_50 (S.ass.length : Int) g6).bind fun g7 => some g7) = ((bd (f_M_hasRoom_50 g) fun r1 g1 => if ir r1 then if r1 = 0 then some g1 else l_M_pushHypothesis_50 20000 0 (k : Int) 0 g1 else none).bind fun g6 => f_M_tally_50 (S.ass.length : Int) g6) := by
        unfold f_M_pushHypothesis_50
        congr 1
        funext g6
        cases f_M_tally_50 (S.ass.length : Int) g6 <;> rfl
      rw [hfun]
      exact hp
    · obtain ⟨hasn, hbnd⟩ := z5 (by omega)
      obtain ⟨x, hx⟩ := ex_get hasn
      obtain ⟨y1, ⟨s', y2, yN⟩, ⟨L, l1, l2, l3, l4⟩, y5, y6, y7, y8, y9⟩ := hR.1.2.2.2 s.asn x hx
      have hj : s.asn < 40 := by omega
      -- the assertion's own statement
      have hstm : x.stm = k := hi9_stm hi hks (by omega) hx
      rw [hstm] at y1 y2 yN
      rw [hks] at y2
      injection y2 with y2
      subst y2
      have hprs := prs_get hx
      have hLl : L.length ≤ 40 := by
        have := nd_len (L.map nrm) x.prs l3 (fun p hp => (l4 p).mp hp)
        rw [List.length_map] at this
        have := (hi.2.2.2.2.2.2.2.2.2 _ x hx).1
        omega
      have e70 : rA g 70 ((s.asn : Nat) : Int) = ((hsOf k s.mand).length : Int) := yN.1
      have hhl : (hsOf k s.mand).length ≤ k := by
        unfold hsOf
        exact Nat.le_trans (List.length_filter_le _ _) (by simp)
      rw [if_pos (show 2 ≤ s.kind by omega), if_pos (by omega), if_neg (by omega), if_neg hk1]
      -- what a use and a tally make of it
      have badT : ∀ (f : Int) (g8 : G2), f_M_apply_50 (s.asn : Int) g = some (f, g8) → S67 g g8 → -12 < f → f < 0 → StpR S g (bd (f_M_apply_50 (s.asn : Int) g) fun r8 g8 => if ir r8 then if r8 = 0 then if 0 ≤ ((40 * (S.ass.length : Int)) + (rA g8 64 (k : Int))) ∧ ((40 * (S.ass.length : Int)) + (rA g8 64 (k : Int))) < 1640 then (f_M_tally_50 (S.ass.length : Int) (gA g8 76 ((40 * (S.ass.length : Int)) + (rA g8 64 (k : Int))) ((rA g8 76 ((40 * (S.ass.length : Int)) + (rA g8 64 (k : Int)))) + 1))).bind fun g12 => some g12 else none else (f_M_fail_50 r8 (rI g8 49 5) g8).bind fun g13 => if 0 ≤ ((40 * (S.ass.length : Int)) + (rA g13 64 (k : Int))) ∧ ((40 * (S.ass.length : Int)) + (rA g13 64 (k : Int))) < 1640 then (f_M_tally_50 (S.ass.length : Int) (gA g13 76 ((40 * (S.ass.length : Int)) + (rA g13 64 (k : Int))) ((rA g13 76 ((40 * (S.ass.length : Int)) + (rA g13 64 (k : Int)))) + 1))).bind fun g15 => some g15 else none else none) (.error f) := by
        intro f g8 ha8 hk8 hf1 hf2
        have e6 : rI g8 49 6 = 0 := (congrFun (hk8 49 (by decide)).1 6).trans h6
        have e64' : ∀ gg : G2, gg.2.2.1 64 = g8.2.2.1 64 → rA gg 64 ((k : Nat) : Int) = (s.asn : Int) := fun gg hgg => by
          show gg.2.2.1 64 k = _
          rw [hgg, (hk8 64 (by decide)).2.2.1]
          have := e64
          rw [if_pos (show 2 ≤ s.kind by omega)] at this
          exact this
        rw [bd_some ha8, if_pos (by omega), if_neg (by omega), m_fail0 e6, Option.bind_some, e64' (gI (gI g8 49 6 f) 49 7 (rI g8 49 5)) rfl, if_pos (by omega)]
        have hp40 : ((40 * (S.ass.length : Int)) + (s.asn : Int)).toNat = 40 * S.ass.length + s.asn := by omega
        have ht := m_tally (g := gA (gI (gI g8 49 6 f) 49 7 (rI g8 49 5)) 76 ((40 * (S.ass.length : Int)) + (s.asn : Int)) ((rA (gI (gI g8 49 6 f) 49 7 (rI g8 49 5)) 76 ((40 * (S.ass.length : Int)) + (s.asn : Int))) + 1)) (a := S.ass.length) (h := S.stk.length) (x := S.ca.hgt) ha (by omega) (by omega) ((congrFun (hk8 49 (by decide)).1 45).trans x45) (by show g8.2.2.1 75 _ = _; rw [(hk8 75 (by decide)).2.2.1]; exact x75)
        have hres : (f_M_tally_50 (S.ass.length : Int) (gA (gI (gI g8 49 6 f) 49 7 (rI g8 49 5)) 76 ((40 * (S.ass.length : Int)) + (s.asn : Int)) ((rA (gI (gI g8 49 6 f) 49 7 (rI g8 49 5)) 76 ((40 * (S.ass.length : Int)) + (s.asn : Int))) + 1))).bind (fun g15 => some g15) = some (gA (gA (gA (gI (gI g8 49 6 f) 49 7 (rI g8 49 5)) 76 ((40 * (S.ass.length : Int)) + (s.asn : Int)) ((rA (gI (gI g8 49 6 f) 49 7 (rI g8 49 5)) 76 ((40 * (S.ass.length : Int)) + (s.asn : Int))) + 1)) 74 (S.ass.length : Int) ((rA (gA (gI (gI g8 49 6 f) 49 7 (rI g8 49 5)) 76 ((40 * (S.ass.length : Int)) + (s.asn : Int)) ((rA (gI (gI g8 49 6 f) 49 7 (rI g8 49 5)) 76 ((40 * (S.ass.length : Int)) + (s.asn : Int))) + 1)) 74 (S.ass.length : Int)) + 1)) 75 (S.ass.length : Int) ((max S.ca.hgt S.stk.length : Nat) : Int)) := by rw [ht, Option.bind_some]
        refine ⟨_, hres, (hk8.sk (a := S.ass.length)).tr (SK.fail.tr (SK.tr (y := gA (gI (gI g8 49 6 f) 49 7 (rI g8 49 5)) 76 ((40 * (S.ass.length : Int)) + (s.asn : Int)) ((rA (gI (gI g8 49 6 f) 49 7 (rI g8 49 5)) 76 ((40 * (S.ass.length : Int)) + (s.asn : Int))) + 1)) ⟨fun r h1 h2 h3 h4 h5 h6 h7 => am_updN h3, rfl, fun _ _ _ _ => rfl, fun _ _ => ⟨rfl, rfl⟩, fun p hp => ?_⟩ SK.tally)), rfl, ?_, hf1, hf2⟩
        · show am_upd (g8.2.2.1 76) ((40 * (S.ass.length : Int)) + (s.asn : Int)).toNat _ p = g8.2.2.1 76 p
          rw [hp40, am_updN (by omega)]
        · exact congrFun (hk8 49 (by decide)).1 5
      by_cases hlt : S.stk.length < (hsOf k s.mand).length
      · rw [if_pos hlt]
        refine badT (-9) g ?_ KK.rf (by decide) (by decide)
        unfold f_M_apply_50
        rw [if_pos (by omega), if_pos (by omega), e70, if_pos (by omega), if_pos (by omega)]
      · rw [if_neg hlt]
        have hap : f_M_apply_50 (s.asn : Int) g = l_M_apply_50 20000 0 (s.asn : Int) ((hsOf k s.mand).length : Int) ((S.stk.length - (hsOf k s.mand).length : Nat) : Int) 0 0 g := by
          unfold f_M_apply_50
          rw [if_pos (by omega), if_pos (by omega), e70, if_pos (by omega), if_neg (by omega), x45, show ((S.stk.length : Int) - ((hsOf k s.mand).length : Int)) = ((S.stk.length - (hsOf k s.mand).length : Nat) : Int) by omega]
        have hbind := m_bindL hR.1.1 hR.1.2.1 x82 hi hs k s.asn (S.stk.length - (hsOf k s.mand).length) s hks hj yN hbnd k 20000 0 (fun _ => 0) g (by omega) (by omega) KK.rf (by rw [hsF_0]; show _ + 0 + _ = _; omega) (fun v hv => by obtain ⟨f, _, f2, _⟩ := hv; omega)
        rw [hsF_0] at hbind
        have h00 : S.stk.length - (hsOf k s.mand).length + (hsOf 0 s.mand).length = S.stk.length - (hsOf k s.mand).length := rfl
        rw [h00] at hbind
        cases hbs : bindS S (hsOf k s.mand) (S.stk.length - (hsOf k s.mand).length) (fun _ => 0) with
        | none =>
          obtain ⟨g8, c1, c2⟩ := hbind.1 hbs
          exact badT (-10) g8 (hap.trans c1) c2 (by decide) (by decide)
        | some σ =>
          obtain ⟨m', g1, c0, c1, c2, c3⟩ := hbind.2 σ hbs
          show StpR S g _ (useS S k s (S.stk.length - (hsOf k s.mand).length) σ)
          have hLb : ∀ p ∈ L, (p.1 < 60 ∧ p.2 < 60) ∧ (g1.2.2.1 86 p.1 = (σ p.1 : Int) ∧ σ p.1 < S.stk.length) ∧ (g1.2.2.1 86 p.2 = (σ p.2 : Int) ∧ σ p.2 < S.stk.length) := fun p hp => by
            have hm : nrm p ∈ prsS S s.asn := by rw [hprs]; exact (l4 _).mp (List.mem_map.mpr ⟨p, hp, rfl⟩)
            obtain ⟨q1, q2, q3, q4⟩ := hbnd.2.2.2.2 _ hm
            unfold nrm at q1 q2 q3 q4
            by_cases hlt : p.1 < p.2
            · rw [if_pos hlt] at q1 q2 q3 q4
              exact ⟨⟨by omega, by omega⟩, c3 _ q3, c3 _ q4⟩
            · rw [if_neg hlt] at q1 q2 q3 q4
              have q1' : p.2 < p.1 := q1
              have q2' : p.1 < S.nms.length := q2
              exact ⟨⟨by omega, by omega⟩, c3 _ q4, c3 _ q3⟩
          have hkeep : keepsS S σ (prsS S s.asn) ↔ ∀ p ∈ L, apartS S (stV S (σ p.1)) (stV S (σ p.2)) := by
            rw [hprs]
            constructor
            · intro hh p hp
              have h1 := hh _ ((l4 _).mp (List.mem_map.mpr ⟨p, hp, rfl⟩))
              have hb := hLb p hp
              unfold nrm at h1
              by_cases hlt : p.1 < p.2
              · rw [if_pos hlt] at h1; exact h1
              · rw [if_neg hlt] at h1; exact apart_symm hi iSt hb.2.2.2 hb.2.1.2 h1
            · intro hh p hp
              obtain ⟨p', hp1, hp2⟩ := List.mem_map.mp ((l4 p).mpr hp)
              have h1 := hh p' hp1
              have hb := hLb p' hp1
              rw [← hp2]
              unfold nrm
              by_cases hlt : p'.1 < p'.2
              · rw [if_pos hlt]; exact h1
              · rw [if_neg hlt]; exact apart_symm hi iSt hb.2.1.2 hb.2.2.2 h1
          obtain ⟨d1, d2⟩ := m_pairsA hi (hR.1.1.kk c2 (by decide)) (hR.2.1.2.2.2.kk c2 (by decide)) (by rw [(c2 82 (by decide)).2.2.1, (c2 83 (by decide)).2.2.1]; exact x82) h16 iSt s.asn (S.stk.length - (hsOf k s.mand).length) hj σ L (by rw [(c2 73 (by decide)).2.2.1]; exact l1) hLl (fun u p hp => by rw [(c2 71 (by decide)).2.2.1, (c2 72 (by decide)).2.2.1]; exact l2 u p hp) hLb L.length m' 0 (by omega) (by omega)
          rw [List.drop_zero] at d1 d2
          have c1' : f_M_apply_50 (s.asn : Int) g = l_M_apply_50 m' 2 (s.asn : Int) 0 ((S.stk.length - (hsOf k s.mand).length : Nat) : Int) ((40 * s.asn + 0 : Nat) : Int) 0 g1 := by
            rw [hap]
            refine Eq.trans c1 ?_
            rw [show (40 * (s.asn : Int)) = ((40 * s.asn + 0 : Nat) : Int) by omega]
          unfold useS
          by_cases hkp : keepsS S σ (prsS S s.asn)
          · rw [if_pos hkp]
            obtain ⟨m2, e0, e1⟩ := d1 (hkeep.mp hkp)
            obtain ⟨m3, rfl⟩ : ∃ m3, m2 = m3 + 1 := ⟨m2 - 1, by omega⟩
            obtain ⟨g2, r1, r2, r3, r4⟩ := m_replace hi (hR.1.1.kk c2 (by decide)) (hR.1.2.1.kk c2 (by decide)) (by rw [(c2 82 (by decide)).2.2.1, (c2 83 (by decide)).2.2.1]; exact x82) h16 iSt σ k s hks (fun v hv hrv => c3 v (hbnd.2.1 v hv hrv))
            have hk2 : S67 g g2 := c2.tr (r2.mono (fun r hr => hr.2))
            have e68 : rA g1 68 ((s.asn : Nat) : Int) = (k : Int) := by show g1.2.2.1 68 s.asn = _; rw [(c2 68 (by decide)).2.2.1]; exact y1
            have e73 : rA g1 73 ((s.asn : Nat) : Int) = (L.length : Int) := by show g1.2.2.1 73 s.asn = _; rw [(c2 73 (by decide)).2.2.1]; exact l1
            have hstep : f_M_apply_50 (s.asn : Int) g = (if 24 < ((repS S σ s.row).1.length : Int) then l_M_apply_50 m3 3 0 0 0 0 0 g2 else if ((S.stk.length - (hsOf k s.mand).length : Nat) : Int) = 16 then l_M_apply_50 m3 3 0 0 0 0 0 g2 else l_M_apply_50 m3 4 0 0 ((S.stk.length - (hsOf k s.mand).length : Nat) : Int) ((repS S σ s.row).1.length : Int) 0 g2) := by
              rw [c1', e1, s_M_apply_50_2]
              unfold b_M_apply_50_2
              rw [if_pos (by omega), if_pos (by omega), e73, if_pos (by omega), if_neg (by omega), e68, bd_some r1, if_pos (by omega)]
              by_cases q24 : 24 < ((repS S σ s.row).1.length : Int)
              · rw [if_pos q24, if_pos q24]
              · rw [if_neg q24, if_neg q24, if_pos (by omega)]
            have t3 : l_M_apply_50 m3 3 0 0 0 0 0 g2 = some (-7, g2) := by
              obtain ⟨m4, rfl⟩ : ∃ m4, m3 = m4 + 1 := ⟨m3 - 1, by omega⟩
              rw [s_M_apply_50_3]; rfl
            by_cases q24 : 24 < (repS S σ s.row).1.length
            · rw [if_pos q24]
              refine badT (-7) g2 ?_ hk2 (by decide) (by decide)
              rw [hstep, if_pos (by omega), t3]
            · rw [if_neg q24]
              unfold putS
              have hbl : ((S.uStk (S.stk.take (S.stk.length - (hsOf k s.mand).length))).uCa ((S.ca.uUse (am_upd S.ca.use s.asn (S.ca.use s.asn + 1))).uSnd (S.ca.snd && sndS S s.asn))).stk.length = S.stk.length - (hsOf k s.mand).length := by
                show (S.stk.take _).length = _
                rw [List.length_take]; omega
              rw [hbl]
              by_cases q16 : 16 ≤ S.stk.length - (hsOf k s.mand).length
              · rw [if_pos q16]
                refine badT (-7) g2 ?_ hk2 (by decide) (by decide)
                rw [hstep, if_neg (by omega), if_pos (by omega), t3]
              · rw [if_neg q16]
                obtain ⟨g3, f1, f2, f3, f4⟩ := m_copyL (S.stk.length - (hsOf k s.mand).length) (by omega) (repS S σ s.row).1 (by omega) (repS S σ s.row).1.length m3 0 g2 (by omega) (by omega) r3 (by rw [List.take_zero]; exact RowAt.nil _ _)
                have hA8 : f_M_apply_50 (s.asn : Int) g = some (0, (gI (gA g3 83 ((S.stk.length - (hsOf k s.mand).length : Nat) : Int) ((repS S σ s.row).1.length : Int)) 49 45 (((S.stk.length - (hsOf k s.mand).length : Nat) : Int) + 1))) := by
                  rw [hstep, if_neg (by omega), if_neg (by omega)]
                  exact f1
                exact m_used hR hi hs ha (by omega) h16 h24 h6 hks (by omega) hj (S.stk.length - (hsOf k s.mand).length) (by omega) (by omega) (repS S σ s.row) g2 g3 hk2 f2 f3 f4 hA8
          · rw [if_neg hkp]
            refine badT (-11) g1 ?_ c2 (by decide) (by decide)
            rw [c1']
            exact d2 (fun z => hkp (hkeep.mpr z))
