/-! ===== the class's steps: pairs and scopes ===== -/
def PX (l : List (Nat × Nat)) (g : G2) : Prop := rI g 26 4 = (l.length : Int) ∧ (∀ (i : Nat) (p : Nat × Nat), l[i]? = some p → g.2.2.1 27 i = 60 * (p.1 : Int) + p.2) ∧ (∀ v : Nat, v < 60 → g.2.2.2 28 v = apOf l v)
/-- but for the pairs' own cells nothing differs -/
def SX (g g' : G2) : Prop := KK (fun r => r ≠ 26 ∧ r ≠ 27 ∧ r ≠ 28) g g' ∧ g'.2.1 26 = g.2.1 26 ∧ rI g' 26 6 = rI g 26 6
theorem SX.rf {g : G2} : SX g g := ⟨KK.rf, rfl, rfl⟩
theorem SX.tr {a b c : G2} (h : SX a b) (k : SX b c) : SX a c := ⟨h.1.tr k.1, k.2.1.trans h.2.1, k.2.2.trans h.2.2⟩
theorem apOf_app (l : List (Nat × Nat)) (p : Nat × Nat) : apOf (l ++ [p]) = apStep (apOf l) p := by unfold apOf; rw [List.foldl_append]; rfl
theorem c_addPair {l : List (Nat × Nat)} {g : G2} {x y : Nat} (h : PX l g) (hl : l.length < 40) (hx : x < 60) (hy : y < 60) : ∃ g', f_Context_addPair_27 (x : Int) (y : Int) g = some g' ∧ PX (l ++ [(x, y)]) g' ∧ SX g g' ∧ ∀ j : Nat, j ≠ l.length → g'.2.2.1 27 j = g.2.2.1 27 j := by
  obtain ⟨h1, h2, h3⟩ := h
  unfold f_Context_addPair_27
  rw [bd_some (show f_Context_pairOf (x : Int) (y : Int) g = some (((x : Int) * 60) + y, g) from rfl), if_pos (by omega), if_pos (by omega), if_pos (by omega)]
  have e : (rI g 26 4).toNat = l.length := by rw [h1, Int.toNat_natCast]
  refine ⟨_, rfl, ⟨?_, ?_, ?_⟩, ⟨KK.b (by decide) (KK.b (by decide) (KK.i (by decide) (KK.a (by decide) KK.rf))), rfl, rfl⟩, ?_⟩
  · show rI g 26 4 + 1 = _
    rw [h1]; exact len1 _ _
  · intro i p hp
    show am_upd (g.2.2.1 27) (rI g 26 4).toNat ((x : Int) * 60 + y) i = _
    rw [e]
    rcases ap_get hp with ⟨a1, a2⟩ | ⟨a1, a2⟩
    · rw [am_updN (by omega)]; exact h2 i p a2
    · subst a1; subst a2; rw [updN_at]; show (x : Int) * 60 + y = 60 * (x : Int) + y; omega
  · intro v hv
    rw [apOf_app]
    have ex := h3 x hx
    have ey := h3 y hy
    have ev := h3 v hv
    show am_upd (am_upd (g.2.2.2 28) x (g.2.2.2 28 x ||| bit y)) y ((am_upd (g.2.2.2 28) x (g.2.2.2 28 x ||| bit y)) y ||| bit x) v = am_upd (am_upd (apOf l) x (apOf l x ||| bit y)) y ((am_upd (apOf l) x (apOf l x ||| bit y)) y ||| bit x) v
    unfold am_upd
    rw [ex, ey, ev]
  · intro j hj
    show am_upd (g.2.2.1 27) (rI g 26 4).toNat _ j = _
    rw [e, am_updN hj]
theorem c_fill : ∀ (k m i : Nat) (g : G2), i + k = 60 → k < m → ∃ g', l_J_fill_29 m 0 (Int64.ofNat 0) (i : Int) 60 g = some g' ∧ KK (fun r => r ≠ 28) g g' ∧ ∀ v : Nat, (i ≤ v → v < 60 → g'.2.2.2 28 v = Int64.ofNat 0) ∧ (v < i → g'.2.2.2 28 v = g.2.2.2 28 v) := by
  intro k
  induction k with
  | zero =>
    intro m i g hi hm
    obtain ⟨m, rfl⟩ : ∃ m', m = m' + 1 := ⟨m - 1, by omega⟩
    refine ⟨g, ?_, KK.rf, fun v => ⟨fun _ _ => by omega, fun _ => rfl⟩⟩
    rw [s_J_fill_29_0]
    unfold b_J_fill_29_0
    rw [if_pos (by omega), if_pos (by decide), if_neg (by omega)]
  | succ k ih =>
    intro m i g hi hm
    obtain ⟨m, rfl⟩ : ∃ m', m = m' + 1 := ⟨m - 1, by omega⟩
    obtain ⟨g', a1, a2, a3⟩ := ih m (i + 1) (gB g 28 (i : Int) (Int64.ofNat 0)) (by omega) (by omega)
    refine ⟨g', ?_, (KK.b (by decide) KK.rf).tr a2, fun v => ⟨fun h1 h2 => ?_, fun h1 => ?_⟩⟩
    · rw [s_J_fill_29_0]
      unfold b_J_fill_29_0
      rw [if_pos (by omega), if_pos (by decide), if_pos (by omega), if_pos (by omega)]
      exact a1
    · rcases Nat.lt_or_ge i v with q | q
      · exact (a3 v).1 (by omega) h2
      · have e : v = i := by omega
        subst e
        rw [(a3 v).2 (by omega)]
        exact updN_at _ _ _
    · rw [(a3 v).2 (by omega)]
      exact am_updN (by omega)
theorem take_succ' {α : Type} {l : List α} {i : Nat} {y : α} (h : l[i]? = some y) : l.take (i + 1) = l.take i ++ [y] := by
  rw [List.take_succ, h]; rfl
theorem c_forgetL (l : List (Nat × Nat)) (kept : Nat) (hk : kept ≤ l.length) (hl : l.length ≤ 40) (hp : ∀ p ∈ l, p.1 < 60 ∧ p.2 < 60) : ∀ (k m i : Nat) (g : G2), i + k = kept → k < m → PX (l.take i) g → (∀ (j : Nat) (p : Nat × Nat), i ≤ j → l[j]? = some p → g.2.2.1 27 j = 60 * (p.1 : Int) + p.2) → ∃ g', l_Context_forgetPairs_27 m 0 (kept : Int) (i : Int) g = some g' ∧ PX (l.take kept) g' ∧ SX g g' := by
  intro k
  induction k with
  | zero =>
    intro m i g hi hm hP h27
    obtain ⟨m, rfl⟩ : ∃ m', m = m' + 1 := ⟨m - 1, by omega⟩
    have e : i = kept := by omega
    subst e
    refine ⟨g, ?_, hP, SX.rf⟩
    rw [s_Context_forgetPairs_27_0]
    unfold b_Context_forgetPairs_27_0
    rw [if_pos (by omega), if_pos (by omega), if_neg (by omega)]
  | succ k ih =>
    intro m i g hi hm hP h27
    obtain ⟨m, rfl⟩ : ∃ m', m = m' + 1 := ⟨m - 1, by omega⟩
    obtain ⟨p, hpi⟩ := ex_get (l := l) (k := i) (by omega)
    have hb := hp p (List.mem_of_getElem? hpi)
    have e27 : rA g 27 ((i : Nat) : Int) = 60 * (p.1 : Int) + p.2 := h27 i p (by omega) hpi
    obtain ⟨g1, a1, a2, a3, a4⟩ := c_addPair hP (by rw [List.length_take]; omega) hb.1 hb.2
    have ht : (l.take i).length = i := by rw [List.length_take]; omega
    rw [ht] at a4
    obtain ⟨g', b1, b2, b3⟩ := ih m (i + 1) g1 (by omega) (by omega) (by rw [take_succ' hpi]; exact a2) (fun j q hj hq => by rw [a4 j (by omega)]; exact h27 j q (by omega) hq)
    refine ⟨g', ?_, b2, a3.tr b3⟩
    rw [s_Context_forgetPairs_27_0]
    unfold b_Context_forgetPairs_27_0
    rw [if_pos (by omega), if_pos (by omega), if_pos (by omega), if_pos (by omega)]
    have d1 : f_Context_firstOf (rA g 27 ((i : Nat) : Int)) g = some ((p.1 : Int), g) := by
      unfold f_Context_firstOf
      rw [e27, if_pos (by omega)]
      have : (60 * (p.1 : Int) + p.2) / 60 = p.1 := by omega
      rw [this]
    have d2 : f_Context_secondOf (rA g 27 ((i : Nat) : Int)) g = some ((p.2 : Int), g) := by
      unfold f_Context_secondOf
      rw [e27, if_pos (by omega)]
      have : (60 * (p.1 : Int) + p.2) % 60 = p.2 := by omega
      rw [this]
    rw [bd_some d1, bd_some d2, a1]
    exact b1
theorem c_forget (l : List (Nat × Nat)) (kept : Nat) (hk : kept ≤ l.length) (hl : l.length ≤ 40) (hp : ∀ p ∈ l, p.1 < 60 ∧ p.2 < 60) (g : G2) (h27 : ∀ (j : Nat) (p : Nat × Nat), l[j]? = some p → g.2.2.1 27 j = 60 * (p.1 : Int) + p.2) : ∃ g', f_Context_forgetPairs_27 (kept : Int) g = some g' ∧ PX (l.take kept) g' ∧ SX g g' := by
  obtain ⟨g1, a1, a2, a3⟩ := c_fill 60 20000 0 (gI g 26 4 0) (by decide) (by decide)
  have k26 := a2 26 (by decide)
  obtain ⟨g', b1, b2, b3⟩ := c_forgetL l kept hk hl hp kept 20000 0 g1 (by omega) (by omega) ⟨by rw [show rI g1 26 4 = rI (gI g 26 4 0) 26 4 from congrFun k26.1 4]; rfl, fun i p hi => by simp at hi, fun v hv => (a3 v).1 (by omega) hv⟩ (fun j p _ hj => by rw [(a2 27 (by decide)).2.2.1]; exact h27 j p hj)
  refine ⟨g', ?_, b2, SX.tr ⟨(KK.i (by decide) KK.rf).tr (a2.mono (fun r hr => hr.2.2)), k26.2.1, congrFun k26.1 6⟩ b3⟩
  unfold f_Context_forgetPairs_27 f_J_fill_29
  have a1' : l_J_fill_29 20000 0 (Int64.ofNat 0) 0 60 (gI g 26 4 0) = some g1 := a1
  have b1' : l_Context_forgetPairs_27 20000 0 (kept : Int) 0 g1 = some g' := b1
  rw [a1', Option.bind_some, b1']
theorem CX.px {S : RSt} {g : G2} (h : CX S g) : PX S.prs g := ⟨h.2.1, h.2.2.1, h.2.2.2.1⟩
theorem c_openScope {S : RSt} {g : G2} (h : CRep S g) (hi : Iv S) (hs : S.stage = 0) : OutC S (f_Context_openScope_27 g) (openS S) := by
  obtain ⟨⟨hN, hS, hA, h38⟩, hX, hR, hC, hP, hL⟩ := h
  have i6 : S.out.length ≤ 6 := hi.1.2.2.2.1
  obtain ⟨⟨x1, x2, x3⟩, x4, x5, x6, x7, x8⟩ := hX
  unfold f_Context_openScope_27 openS
  rw [if_pos (by omega)]
  by_cases q : 6 ≤ S.out.length
  · rw [if_neg (by omega), if_pos q]
    exact ⟨g, rfl, ⟨hN, hS, hA, h38⟩, by decide, by decide⟩
  · rw [if_pos (by omega), if_neg q, if_pos (by omega)]
    have e : (rI g 26 6).toNat = S.out.length := by rw [x7, Int.toNat_natCast]
    refine ⟨_, rfl, ⟨hN, hS, hA, h38⟩, ⟨⟨x1, x2, x3⟩, x4, x5, x6, ?_, ?_⟩, hR, hC, hP, hL⟩
    · show rI g 26 6 + 1 = _
      rw [x7]; exact len1 _ _
    · intro t o ho
      show am_upd (g.2.2.2 29) (rI g 26 6).toNat (rJ g 26 0) t = _ ∧ am_upd (g.2.2.2 30) (rI g 26 6).toNat (rJ g 26 1) t = _ ∧ am_upd (g.2.2.2 31) (rI g 26 6).toNat (rJ g 26 2) t = _ ∧ am_upd (g.2.2.1 32) (rI g 26 6).toNat (rI g 26 4) t = _
      rw [e]
      rcases ap_get ho with ⟨a1, a2⟩ | ⟨a1, a2⟩
      · rw [am_updN (by omega), am_updN (by omega), am_updN (by omega), am_updN (by omega)]; exact x8 t o a2
      · subst a1; subst a2
        rw [updN_at, updN_at, updN_at, updN_at]; exact ⟨x1, x2, x3, x4⟩
theorem prs60 {S : RSt} (hi : Iv S) : ∀ p ∈ S.prs, p.1 < 60 ∧ p.2 < 60 := fun p hp => by
  have h1 := hi.2.2.2.2.1 p hp
  have h2 := hi.1.1
  omega
theorem c_closeScope {S : RSt} {g : G2} (h : CRep S g) (hi : Iv S) (hs : S.stage = 0) : OutC S (f_Context_closeScope_27 g) (closeS S) := by
  obtain ⟨⟨hN, hS, hA, h38⟩, hX, hR, hC, hP, hL⟩ := h
  have i6 : S.out.length ≤ 6 := hi.1.2.2.2.1
  obtain ⟨⟨x1, x2, x3⟩, x4, x5, x6, x7, x8⟩ := hX
  unfold f_Context_closeScope_27 closeS
  rw [if_pos (by omega)]
  by_cases q : S.out.length = 0
  · rw [if_pos (by omega), q, List.getElem?_eq_none (by omega)]
    exact ⟨g, rfl, ⟨hN, hS, hA, h38⟩, by decide, by decide⟩
  · rw [if_neg (by omega), if_pos (by omega)]
    obtain ⟨o, ho⟩ := ex_get (l := S.out) (k := S.out.length - 1) (by omega)
    rw [ho]
    have e : ((rI g 26 6) - 1).toNat = S.out.length - 1 := by rw [x7]; omega
    obtain ⟨y1, y2, y3, y4⟩ := x8 _ o ho
    have e32 : rA g 32 ((rI g 26 6) - 1) = (o.2.2.2 : Int) := by show g.2.2.1 32 _ = _; rw [e]; exact y4
    have hle := (hi.2.2.2.1.2 _ o ho).2.1
    obtain ⟨g', a1, a2, a3, a4, a5⟩ := c_forget S.prs o.2.2.2 hle hi.1.2.2.2.2.1 (prs60 hi) (gJ (gJ (gJ (gI g 26 6 ((rI g 26 6) - 1)) 26 0 (rB g 29 ((rI g 26 6) - 1))) 26 1 (rB g 30 ((rI g 26 6) - 1))) 26 2 (rB g 31 ((rI g 26 6) - 1))) x5
    have e29 : rB g 29 ((rI g 26 6) - 1) = o.1 := by show g.2.2.2 29 _ = _; rw [e]; exact y1
    have e30 : rB g 30 ((rI g 26 6) - 1) = o.2.1 := by show g.2.2.2 30 _ = _; rw [e]; exact y2
    have e31 : rB g 31 ((rI g 26 6) - 1) = o.2.2.1 := by show g.2.2.2 31 _ = _; rw [e]; exact y3
    rw [e32, a1]
    have kk : KK (fun r => r ≠ 26 ∧ r ≠ 27 ∧ r ≠ 28) g g' := (KK.j (by decide) (KK.j (by decide) (KK.j (by decide) (KK.i (by decide) KK.rf)))).tr a3
    obtain ⟨p1, p2, p3⟩ := a2
    refine ⟨g', rfl, ⟨hN.kk kk (by decide), hS.kk kk (by decide), hA.kk kk (by decide) (by decide), z38 h38 kk (by decide)⟩, ⟨⟨?_, ?_, ?_⟩, p1, p2, p3, ?_, ?_⟩, hR.kk kk (by decide), hC.kk kk (by decide) (by decide), hP.kk kk (by decide), hL.kk kk (by decide)⟩
    · show g'.2.1 26 0 = _
      rw [a4]; exact e29
    · show g'.2.1 26 1 = _
      rw [a4]; exact e30
    · show g'.2.1 26 2 = _
      rw [a4]; exact e31
    · rw [a5]
      show rI g 26 6 - 1 = _
      rw [x7]
      show _ = ((S.out.take (S.out.length - 1)).length : Int)
      rw [List.length_take]; omega
    · intro t o' ho'
      have ho2 : (S.out.take (S.out.length - 1))[t]? = some o' := ho'
      have hlt := lt_get ho2
      rw [List.length_take] at hlt
      rw [List.getElem?_take, if_pos (by omega)] at ho2
      rw [(kk 29 (by decide)).2.2.2, (kk 30 (by decide)).2.2.2, (kk 31 (by decide)).2.2.2, (kk 32 (by decide)).2.2.1]
      exact x8 t o' ho2
