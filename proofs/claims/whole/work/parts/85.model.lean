/-! ===== the model: replacing, and what is apart ===== -/
/-- but for the row in the making nothing differs -/
abbrev S87 (g g' : G2) : Prop := KK (fun r => r ≠ 87) g g'
/-- what replacing reads -/
def RpM (S : RSt) (g : G2) (σ : Nat → Nat) (l : List Nat) : Prop := ∀ v ∈ l, rol S v = 1 → g.2.2.1 86 v = (σ v : Int) ∧ σ v < S.stk.length
theorem m_bodyL {g0 : G2} (K p : Nat) (hp : p < 16) (e L : List Nat) (h83 : g0.2.2.1 83 p = (e.length : Int)) (h82 : RowAt (g0.2.2.1 82) (24 * p) e) (h24 : e.length ≤ 24) (i3 : Int) (hL : L.length ≤ 576) : ∀ (k m i : Nat) (g : G2), i + k = e.tail.length → k < m → S87 g0 g → RowAt (g.2.2.1 87) 0 (L ++ e.tail.take i) → ∃ (m' : Nat) (g' : G2), m = m' + k + 1 ∧ l_M_replace_50 m 1 (K : Int) ((L.length + i : Nat) : Int) i3 (p : Int) ((i : Int) + 1) g = l_M_replace_50 m' 0 (K : Int) ((L ++ e.tail).length : Int) (i3 + 1) 0 0 g' ∧ S87 g0 g' ∧ RowAt (g'.2.2.1 87) 0 (L ++ e.tail) := by
  have htl : e.tail.length = e.length - 1 := by rw [List.length_tail]
  intro k
  induction k with
  | zero =>
    intro m i g hi hm hk hr
    obtain ⟨m, rfl⟩ : ∃ m', m = m' + 1 := ⟨m - 1, by omega⟩
    rw [List.take_of_length_le (by omega)] at hr
    have e83 : rA g 83 ((p : Nat) : Int) = (e.length : Int) := by show g.2.2.1 83 p = _; rw [(hk 83 (by decide)).2.2.1]; exact h83
    refine ⟨m, g, rfl, ?_, hk, hr⟩
    rw [s_M_replace_50_1]
    unfold b_M_replace_50_1
    rw [if_pos (by omega), if_pos (by omega), e83, if_pos (by omega), if_neg (by omega), List.length_append, show L.length + i = L.length + e.tail.length by omega]
  | succ k ih =>
    intro m i g hi hm hk hr
    obtain ⟨m, rfl⟩ : ∃ m', m = m' + 1 := ⟨m - 1, by omega⟩
    obtain ⟨x, hx⟩ := ex_get (l := e.tail) (k := i) (by omega)
    have hx1 : e[i + 1]? = some x := by rw [← tail_get]; exact hx
    have e83 : rA g 83 ((p : Nat) : Int) = (e.length : Int) := by show g.2.2.1 83 p = _; rw [(hk 83 (by decide)).2.2.1]; exact h83
    have e82 : rA g 82 ((24 * (p : Int)) + ((i : Int) + 1)) = (x : Int) := by
      show g.2.2.1 82 ((24 * (p : Int)) + ((i : Int) + 1)).toNat = _
      rw [(hk 82 (by decide)).2.2.1, show ((24 * (p : Int)) + ((i : Int) + 1)).toNat = 24 * p + (i + 1) by omega]
      exact h82 (i + 1) x hx1
    have hll : (L ++ e.tail.take i).length = L.length + i := by rw [List.length_append, List.length_take]; omega
    obtain ⟨m', g', a1, a2, a3, a4⟩ := ih m (i + 1) (gA g 87 ((L.length + i : Nat) : Int) (x : Int)) (by omega) (by omega) (hk.tr (KK.a (by decide) KK.rf)) (by
      show RowAt (am_upd (g.2.2.1 87) (L.length + i) (x : Int)) 0 (L ++ e.tail.take (i + 1))
      rw [take_succ' hx, ← List.append_assoc]
      exact hr.app x _ rfl _ (by rw [hll]; omega))
    refine ⟨m', g', by omega, ?_, a3, a4⟩
    rw [s_M_replace_50_1]
    unfold b_M_replace_50_1
    rw [if_pos (by omega), if_pos (by omega), e83, if_pos (by omega), if_pos (by omega), if_pos (by omega), if_pos (by omega), e82]
    exact a2
theorem m_replL {S : RSt} {g0 : G2} (hi : Iv S) (hN : MN S g0) (hS : MSt S g0) (h83 : StkM (g0.2.2.1 82) (g0.2.2.1 83) S.stk) (h16 : S.stk.length ≤ 16) (hst : StOk S S.stk) (σ : Nat → Nat) (K : Nat) (s : RSm) (hK : S.sms[K]? = some s) (hrp : RpM S g0 σ s.row) : ∀ (q m i : Nat) (g : G2), i + q = s.row.length → 30 * q + 1 < m → S87 g0 g → RowAt (g.2.2.1 87) 0 (repS S σ (s.row.take i)).1 → (repS S σ (s.row.take i)).1.length ≤ 24 * i → ∃ g', l_M_replace_50 m 0 (K : Int) ((repS S σ (s.row.take i)).1.length : Int) (i : Int) 0 0 g = some (((repS S σ s.row).1.length : Int), g') ∧ S87 g0 g' ∧ RowAt (g'.2.2.1 87) 0 (repS S σ s.row).1 ∧ (repS S σ s.row).1.length ≤ 576 := by
  have n60 := hi.1.1
  have m40 : S.sms.length ≤ 40 := hi.1.2.1
  have hKl := lt_get hK
  obtain ⟨z1, ⟨o1, o2, o3, o4⟩, z3, z4, z5⟩ := hi.2.2.1 K s hK
  obtain ⟨w1, w2, w3, w4, w5⟩ := hS.2 K s hK
  intro q
  induction q with
  | zero =>
    intro m i g hiq hm hk hr hle
    obtain ⟨m, rfl⟩ : ∃ m', m = m' + 1 := ⟨m - 1, by omega⟩
    rw [List.take_of_length_le (by omega)] at hr hle ⊢
    have e61 : rA g 61 ((K : Nat) : Int) = (s.row.length : Int) := by show g.2.2.1 61 K = _; rw [(hk 61 (by decide)).2.2.1]; exact w3
    refine ⟨g, ?_, hk, hr, by omega⟩
    rw [s_M_replace_50_0]
    unfold b_M_replace_50_0
    rw [if_pos (by omega), if_pos (by omega), e61, if_pos (by omega), if_neg (by omega)]
  | succ q ih =>
    intro m i g hiq hm hk hr hle
    obtain ⟨m, rfl⟩ : ∃ m', m = m' + 1 := ⟨m - 1, by omega⟩
    obtain ⟨x, hx⟩ := ex_get (l := s.row) (k := i) (by omega)
    have hxm := List.mem_of_getElem? hx
    obtain ⟨x1, x2⟩ := o3 x hxm
    obtain ⟨y, hy⟩ := ex_get x1
    have hry := rol_get hy
    have r2 := (hi.2.1 x y hy).1
    have e61 : rA g 61 ((K : Nat) : Int) = (s.row.length : Int) := by show g.2.2.1 61 K = _; rw [(hk 61 (by decide)).2.2.1]; exact w3
    have e60 : rA g 60 ((24 * (K : Int)) + (i : Int)) = (x : Int) := by
      show g.2.2.1 60 ((24 * (K : Int)) + (i : Int)).toNat = _
      rw [(hk 60 (by decide)).2.2.1, show ((24 * (K : Int)) + (i : Int)).toNat = 24 * K + i by omega]; exact w4 i x hx
    have e54 : rA g 54 ((x : Nat) : Int) = (((y.role + 1) % 3 : Nat) : Int) := by show g.2.2.1 54 x = _; rw [(hk 54 (by decide)).2.2.1]; exact (hN.2 x y hy).2.1
    have htk : (repS S σ (s.row.take (i + 1))).1 = (repS S σ (s.row.take i)).1 ++ (subS S σ x).1 := by rw [take_succ' hx, repS_app, repS_one]
    rw [s_M_replace_50_0]
    unfold b_M_replace_50_0
    rw [if_pos (by omega), if_pos (by omega), e61, if_pos (by omega), if_pos (by omega), if_pos (by omega), e60, if_pos (by omega), e54, if_pos (by omega)]
    by_cases hv : rol S x = 1
    · obtain ⟨v1, v2⟩ := hrp x hxm hv
      obtain ⟨e, he⟩ := ex_get v2
      obtain ⟨f1, f2⟩ := h83 _ e he
      obtain ⟨t1, t2, t3, t4⟩ := (hst e (List.mem_of_getElem? he)).1
      have hsub : (subS S σ x).1 = e.1.tail := by unfold subS stR; rw [if_pos hv, he]; rfl
      have htl : e.1.tail.length = e.1.length - 1 := by rw [List.length_tail]
      have e86 : rA g 86 ((x : Nat) : Int) = (σ x : Int) := by show g.2.2.1 86 x = _; rw [(hk 86 (by decide)).2.2.1]; exact v1
      rw [if_pos (by rw [← hry, hv]; rfl), e86]
      obtain ⟨m', g1, a1, a2, a3, a4⟩ := m_bodyL (g0 := g0) K (σ x) (by omega) e.1 (repS S σ (s.row.take i)).1 f2 f1 t2 (i : Int) (by omega) e.1.tail.length m 0 g (by omega) (by omega) hk (by rw [List.take_zero, List.append_nil]; exact hr)
      have a2' : l_M_replace_50 m 1 (K : Int) ((repS S σ (s.row.take i)).1.length : Int) (i : Int) ((σ x : Nat) : Int) 1 g = l_M_replace_50 m' 0 (K : Int) (((repS S σ (s.row.take i)).1 ++ e.1.tail).length : Int) ((i : Int) + 1) 0 0 g1 := a2
      rw [a2', ← hsub, ← htk]
      exact ih m' (i + 1) g1 (by omega) (by omega) a3 (by rw [htk, hsub]; exact a4) (by rw [htk, hsub, List.length_append]; omega)
    · have hsub : (subS S σ x).1 = [x] := by unfold subS; rw [if_neg hv]
      have hy1 : y.role ≠ 1 := fun z => hv (by rw [hry]; exact z)
      rw [if_neg (by omega), if_pos (by omega)]
      have hnx := ih m (i + 1) (gA g 87 ((repS S σ (s.row.take i)).1.length : Int) (x : Int)) (by omega) (by omega) (hk.tr (KK.a (by decide) KK.rf)) (by
        rw [htk, hsub]
        show RowAt (am_upd (g.2.2.1 87) (repS S σ (s.row.take i)).1.length (x : Int)) 0 _
        exact hr.app x _ rfl _ (by omega)) (by rw [htk, hsub, List.length_append]; show _ + 1 ≤ _; omega)
      have hlen : ((repS S σ (s.row.take i)).1.length : Int) + 1 = ((repS S σ (s.row.take (i + 1))).1.length : Int) := by rw [htk, hsub]; exact len1 _ _
      rw [hlen]
      exact hnx
theorem m_replace {S : RSt} {g : G2} (hi : Iv S) (hN : MN S g) (hS : MSt S g) (h83 : StkM (g.2.2.1 82) (g.2.2.1 83) S.stk) (h16 : S.stk.length ≤ 16) (hst : StOk S S.stk) (σ : Nat → Nat) (K : Nat) (s : RSm) (hK : S.sms[K]? = some s) (hrp : RpM S g σ s.row) : ∃ g', f_M_replace_50 (K : Int) g = some (((repS S σ s.row).1.length : Int), g') ∧ S87 g g' ∧ RowAt (g'.2.2.1 87) 0 (repS S σ s.row).1 ∧ (repS S σ s.row).1.length ≤ 576 := by
  have h24 := row24 hi hK
  have := m_replL hi hN hS h83 h16 hst σ K s hK hrp s.row.length 20000 0 g (by omega) (by omega) KK.rf (by rw [List.take_zero]; exact RowAt.nil _ _) (by rw [List.take_zero]; exact Nat.zero_le _)
  rw [List.take_zero] at this
  exact this
theorem m_madeL {g : G2} (p : Nat) (hp : p < 16) (a b : List Nat) (hab : a.length = b.length) (h24 : a.length ≤ 24) (ha : RowAt (g.2.2.1 82) (24 * p) a) (hb : RowAt (g.2.2.1 87) 0 b) (h60 : (∀ v ∈ a, v < 60) ∧ ∀ v ∈ b, v < 60) : ∀ (k m i : Nat), i + k = b.length → k + 1 < m → l_M_isMade_50 m 0 (p : Int) (b.length : Int) 1 (i : Int) g = some (b01 (decide (a.drop i = b.drop i)), g) := by
  intro k
  induction k with
  | zero =>
    intro m i hi hm
    obtain ⟨m, rfl⟩ : ∃ m', m = m' + 1 := ⟨m - 1, by omega⟩
    rw [s_M_isMade_50_0, List.drop_eq_nil_of_le (by omega), List.drop_eq_nil_of_le (by omega)]
    unfold b_M_isMade_50_0
    rw [if_pos (by omega), if_pos (by omega), if_neg (by omega), if_pos (by decide)]
    rfl
  | succ k ih =>
    intro m i hi hm
    obtain ⟨m, rfl⟩ : ∃ m', m = m' + 2 := ⟨m - 2, by omega⟩
    obtain ⟨x, hx⟩ := ex_get (l := a) (k := i) (by omega)
    obtain ⟨y, hy⟩ := ex_get (l := b) (k := i) (by omega)
    have hx60 := h60.1 x (List.mem_of_getElem? hx)
    have hy60 := h60.2 y (List.mem_of_getElem? hy)
    have ex : rA g 82 ((24 * (p : Int)) + (i : Int)) = (x : Int) := by
      show g.2.2.1 82 ((24 * (p : Int)) + (i : Int)).toNat = _
      rw [show ((24 * (p : Int)) + (i : Int)).toNat = 24 * p + i by omega]; exact ha i x hx
    have ey : rA g 87 ((i : Nat) : Int) = (y : Int) := by have := hb i y hy; rw [Nat.zero_add] at this; exact this
    rw [show m + 2 = (m + 1) + 1 by omega, s_M_isMade_50_0, drop_eq hx, drop_eq hy]
    unfold b_M_isMade_50_0
    rw [if_pos (by omega), if_pos (by omega), if_pos (by omega), if_pos (by decide), if_neg (by decide), if_pos (by omega), if_pos (by omega), ex, ey, if_pos (by omega), if_pos (by omega)]
    by_cases q : x = y
    · rw [if_pos (by omega)]
      have := ih (m + 1) (i + 1) (by omega) (by omega)
      rw [show ((i : Int) + 1) = ((i + 1 : Nat) : Int) from rfl, this]
      subst q
      simp
    · rw [if_neg (by omega), s_M_isMade_50_0]
      unfold b_M_isMade_50_0
      rw [if_pos (by omega), if_pos (by omega)]
      have hd : decide (x :: a.drop (i + 1) = y :: b.drop (i + 1)) = false := decide_eq_false (fun z => q (List.cons.inj z).1)
      rw [hd]
      by_cases z : (i : Int) + 1 < (b.length : Int)
      · rw [if_pos z, if_pos (by decide), if_pos rfl, if_pos (by decide)]; rfl
      · rw [if_neg z, if_pos (by decide)]; rfl
theorem m_isMade {g : G2} (p : Nat) (hp : p < 16) (a b : List Nat) (h83 : g.2.2.1 83 p = (a.length : Int)) (h24 : a.length ≤ 24) (hb576 : b.length ≤ 576) (ha : RowAt (g.2.2.1 82) (24 * p) a) (hb : RowAt (g.2.2.1 87) 0 b) (h60 : (∀ v ∈ a, v < 60) ∧ ∀ v ∈ b, v < 60) : f_M_isMade_50 (p : Int) (b.length : Int) g = some (b01 (decide (a = b)), g) := by
  have e83 : rA g 83 ((p : Nat) : Int) = (a.length : Int) := h83
  unfold f_M_isMade_50
  rw [if_pos (by omega), e83, if_pos (by omega), if_pos (by omega)]
  by_cases q : a.length = b.length
  · rw [if_pos (by omega)]
    exact m_madeL p hp a b q h24 ha hb h60 b.length 20000 0 (by omega) (by omega)
  · rw [if_neg (by omega), show (20000 : Nat) = 19999 + 1 from rfl, s_M_isMade_50_0]
    unfold b_M_isMade_50_0
    have hd : decide (a = b) = false := decide_eq_false (fun z => q (by rw [z]))
    rw [hd, if_pos (by decide), if_pos (by omega)]
    by_cases z : (0 : Int) < (b.length : Int)
    · rw [if_pos z, if_pos (by decide), if_pos rfl, if_pos (by decide)]; rfl
    · rw [if_neg z, if_pos (by decide)]; rfl
