/-! ===== the class's steps: the stack ===== -/
/-- a row is put on the stack from the cell src -/
theorem c_pushed {S : RSt} {g : G2} (h : CRep S g) (hs : 10 ≤ S.stage) (ha : S.ass.length < 40) (hh : S.ca.hgt ≤ 16) (h24 : ∀ e ∈ S.stk, e.1.length ≤ 24) (hlt : S.stk.length < 16) (src o : Nat) (hsrc : src ≠ 35) (e : List Nat × Int64) (he : RowAt (g.2.2.1 src) o e.1) (len : Int) (hlen : len = (e.1.length : Int)) (v : Int64) (hv : v = e.2) (sp : Int) (hsp : sp.toNat = o) :
    ∃ g5, f_Assertions_noteStep_17 ((rI g 34 4) + 1) (gI (gB (gA (gC g src 35 sp ((rI g 34 4) * 24) len) 36 (rI g 34 4) len) 37 (rI g 34 4) v) 34 4 ((rI g 34 4) + 1)) = some g5 ∧ CRep ((S.uStk (S.stk ++ [e])).uCa ((S.ca.uStp (S.ca.stp + 1)).uHgt (max S.ca.hgt (S.stk.length + 1)))) g5 := by
  subst hlen; subst hv
  obtain ⟨⟨hN, hS, hA, h38⟩, hX, hR, hC, hP, hL⟩ := h
  obtain ⟨a1, a2⟩ := hA
  obtain ⟨p1, p2, p3⟩ := hP hs
  obtain ⟨c1, c2, c3⟩ := hC
  obtain ⟨d1, d2, ⟨y1, y2, y3, y4, y5, y6, y7, y8⟩⟩ := c3 hs
  have ea : (rI g 16 8).toNat = S.ass.length := by rw [a1, Int.toNat_natCast]
  have es : (rI g 34 4).toNat = S.stk.length := by rw [p1, Int.toNat_natCast]
  have es24 : ((rI g 34 4) * 24).toNat = 24 * S.stk.length := by rw [p1]; omega
  have e21 : rA (gI (gB (gA (gC g src 35 sp ((rI g 34 4) * 24) (e.1.length : Int)) 36 (rI g 34 4) (e.1.length : Int)) 37 (rI g 34 4) e.2) 34 4 ((rI g 34 4) + 1)) 21 (rI g 16 8) = (S.ca.hgt : Int) := by
    show g.2.2.1 21 (rI g 16 8).toNat = _
    rw [ea]; exact y5
  have e20 : rA (gI (gB (gA (gC g src 35 sp ((rI g 34 4) * 24) (e.1.length : Int)) 36 (rI g 34 4) (e.1.length : Int)) 37 (rI g 34 4) e.2) 34 4 ((rI g 34 4) + 1)) 20 (rI g 16 8) = (S.ca.stp : Int) := by
    show g.2.2.1 20 (rI g 16 8).toNat = _
    rw [ea]; exact y4
  have a1' : rI (gI (gB (gA (gC g src 35 sp ((rI g 34 4) * 24) (e.1.length : Int)) 36 (rI g 34 4) (e.1.length : Int)) 37 (rI g 34 4) e.2) 34 4 ((rI g 34 4) + 1)) 16 8 = rI g 16 8 := rfl
  unfold f_Assertions_noteStep_17
  rw [a1', e21, e20, if_pos (by omega), if_pos (by omega), if_pos (by omega)]
  refine ⟨_, rfl, ⟨hN, hS, ⟨a1, fun j x hx => ?_⟩, h38⟩, hX, hR, ⟨c1, c2, fun _ => ⟨d1, d2, ⟨y1, y2, y3, ?_, ?_, y6, y7, y8⟩⟩⟩, fun _ => ⟨?_, ?_, p3⟩, hL⟩
  · have hltj : j < S.ass.length := lt_get hx
    obtain ⟨z1, z2, z3, z4, z5, z6, z7, z8⟩ := a2 j x hx
    refine ⟨z1, z2, z3, ?_, ?_, z6, z7, z8⟩
    · show am_upd (g.2.2.1 20) (rI g 16 8).toNat _ j = _
      rw [ea, am_updN (by omega)]; exact z4
    · show am_upd (g.2.2.1 21) (rI g 16 8).toNat _ j = _
      rw [ea, am_updN (by omega)]; exact z5
  · show am_upd (g.2.2.1 20) (rI g 16 8).toNat _ S.ass.length = _
    rw [ea, updN_at]; exact nat1 _
  · show am_upd (g.2.2.1 21) (rI g 16 8).toNat _ S.ass.length = _
    rw [ea, updN_at, p1]
    show am_max (S.ca.hgt : Int) ((S.stk.length : Int) + 1) = ((max S.ca.hgt (S.stk.length + 1) : Nat) : Int)
    unfold am_max
    by_cases q : (S.ca.hgt : Int) < (S.stk.length : Int) + 1
    · rw [if_pos q]; omega
    · rw [if_neg q]; omega
  · show rI g 34 4 + 1 = _
    rw [p1]; exact len1 _ _
  · intro r f hf
    show RowAt (am_cpy (g.2.2.1 src) (g.2.2.1 35) sp.toNat ((rI g 34 4) * 24).toNat ((e.1.length : Int)).toNat) (24 * r) f.1 ∧ am_upd (g.2.2.1 36) (rI g 34 4).toNat _ r = _ ∧ am_upd (g.2.2.2 37) (rI g 34 4).toNat _ r = _
    rw [es, es24, hsp, Int.toNat_natCast]
    rcases ap_get hf with ⟨b1, b2⟩ | ⟨b1, b2⟩
    · have := h24 f (List.mem_of_getElem? b2)
      obtain ⟨w1, w2, w3⟩ := p2 r f b2
      exact ⟨w1.keep (Or.inl (by omega)), by rw [am_updN (by omega)]; exact w2, by rw [am_updN (by omega)]; exact w3⟩
    · subst b1; subst b2
      exact ⟨he.cpy rfl, updN_at _ _ _, updN_at _ _ _⟩
theorem c_full {S : RSt} {g : G2} (hP : CPf S g) (hs : 10 ≤ S.stage) (h16 : S.stk.length ≤ 16) : f_Expressions_isFull_35 g = some ((if 16 ≤ S.stk.length then 1 else 0), g) := by
  obtain ⟨p1, _⟩ := hP hs
  unfold f_Expressions_isFull_35
  rw [if_pos (by omega)]
  by_cases q : 16 ≤ S.stk.length
  · rw [if_neg (by omega), if_pos q]
  · rw [if_pos (by omega), if_neg q]
/-- what a push needs -/
def PuOk (S : RSt) : Prop := 10 ≤ S.stage ∧ S.ass.length < 40 ∧ S.ca.hgt ≤ 16 ∧ S.stk.length ≤ 16 ∧ ∀ e ∈ S.stk, e.1.length ≤ 24
theorem Iv.pu {S : RSt} (hi : Iv S) (hs : 10 ≤ S.stage) : PuOk S := by
  obtain ⟨i1, i2, i3, i4, i5, i6, _⟩ := hi.2.2.2.2.2.2.2.1 hs
  have m40 : S.sms.length < 40 := (hi.2.2.2.2.2.2.1.1 (by omega)).2.1
  have := hi.1.2.2.1
  exact ⟨hs, by omega, i4, i5, fun e he => (i6 e he).1.2.1⟩
theorem c_put11 {S : RSt} {g : G2} (h : CRep S g) (hp : PuOk S) (k : Nat) (s : RSm) (hk : S.sms[k]? = some s) (hk40 : k < 40) (hl : s.row.length ≤ 24) : OutC S (f_Proof_put_34_11 (k : Int) g) (putS S (s.row, s.vs)) := by
  obtain ⟨u1, u2, u3, u4, u5⟩ := hp
  have hS := h.1.2.1
  obtain ⟨w1, w2, w3, w4, w5, w6⟩ := hS.2 k s hk
  have p1 := (h.2.2.2.2.1 u1).1
  unfold f_Proof_put_34_11 putS
  rw [bd_some (c_full h.2.2.2.2.1 u1 u4)]
  by_cases q : 16 ≤ S.stk.length
  · rw [if_pos q, if_pos (by decide), if_neg (by decide), if_pos q]
    exact ⟨g, rfl, h.1, by decide, by decide⟩
  · rw [if_neg q, if_pos (by decide), if_pos rfl, if_neg q]
    have e12 : rA g 12 ((k : Nat) : Int) = (s.row.length : Int) := w3
    have e13 : rB g 13 ((k : Nat) : Int) = s.vs := w5
    have hc : f_Expressions_addCopy_35_11 (k : Int) g = some (gI (gB (gA (gC g 11 35 ((k : Int) * 24) ((rI g 34 4) * 24) (s.row.length : Int)) 36 (rI g 34 4) (s.row.length : Int)) 37 (rI g 34 4) s.vs) 34 4 ((rI g 34 4) + 1)) := by
      unfold f_Expressions_addCopy_35_11
      rw [e12, e13, if_pos (by omega), if_pos (by omega), if_pos (by omega)]
    rw [hc, Option.bind_some]
    obtain ⟨g5, b1, b2⟩ := c_pushed h u1 u2 u3 u5 (by omega) 11 (24 * k) (by decide) (s.row, s.vs) w4 (s.row.length : Int) rfl s.vs rfl ((k : Int) * 24) (by omega)
    have b1' : f_Assertions_noteStep_17 (rI (gI (gB (gA (gC g 11 35 ((k : Int) * 24) ((rI g 34 4) * 24) (s.row.length : Int)) 36 (rI g 34 4) (s.row.length : Int)) 37 (rI g 34 4) s.vs) 34 4 ((rI g 34 4) + 1)) 34 4) (gI (gB (gA (gC g 11 35 ((k : Int) * 24) ((rI g 34 4) * 24) (s.row.length : Int)) 36 (rI g 34 4) (s.row.length : Int)) 37 (rI g 34 4) s.vs) 34 4 ((rI g 34 4) + 1)) = some g5 := b1
    rw [b1']
    exact ⟨g5, rfl, b2⟩
theorem c_put46 {S : RSt} {g : G2} (h : CRep S g) (hp : PuOk S) (hs12 : 12 ≤ S.stage) (k : Nat) (e : List Nat × Int64) (hk : S.tags[k]? = some e) (hk16 : k < 16) (hl : e.1.length ≤ 24) : OutC S (f_Proof_put_34_46 (k : Int) g) (putS S e) := by
  obtain ⟨u1, u2, u3, u4, u5⟩ := hp
  obtain ⟨l1, l2, l3, l4, l5, l6, l7⟩ := h.2.2.2.2.2 hs12
  obtain ⟨w1, w2, w3⟩ := l5 k e hk
  have p1 := (h.2.2.2.2.1 u1).1
  unfold f_Proof_put_34_46 putS
  rw [bd_some (c_full h.2.2.2.2.1 u1 u4)]
  by_cases q : 16 ≤ S.stk.length
  · rw [if_pos q, if_pos (by decide), if_neg (by decide), if_pos q]
    exact ⟨g, rfl, h.1, by decide, by decide⟩
  · rw [if_neg q, if_pos (by decide), if_pos rfl, if_neg q]
    have e12 : rA g 47 ((k : Nat) : Int) = (e.1.length : Int) := w2
    have e13 : rB g 48 ((k : Nat) : Int) = e.2 := w3
    have hc : f_Expressions_addCopy_35_46 (k : Int) g = some (gI (gB (gA (gC g 46 35 ((k : Int) * 24) ((rI g 34 4) * 24) (e.1.length : Int)) 36 (rI g 34 4) (e.1.length : Int)) 37 (rI g 34 4) e.2) 34 4 ((rI g 34 4) + 1)) := by
      unfold f_Expressions_addCopy_35_46
      rw [e12, e13, if_pos (by omega), if_pos (by omega), if_pos (by omega)]
    rw [hc, Option.bind_some]
    obtain ⟨g5, b1, b2⟩ := c_pushed h u1 u2 u3 u5 (by omega) 46 (24 * k) (by decide) e w1 (e.1.length : Int) rfl e.2 rfl ((k : Int) * 24) (by omega)
    have b1' : f_Assertions_noteStep_17 (rI (gI (gB (gA (gC g 46 35 ((k : Int) * 24) ((rI g 34 4) * 24) (e.1.length : Int)) 36 (rI g 34 4) (e.1.length : Int)) 37 (rI g 34 4) e.2) 34 4 ((rI g 34 4) + 1)) 34 4) (gI (gB (gA (gC g 46 35 ((k : Int) * 24) ((rI g 34 4) * 24) (e.1.length : Int)) 36 (rI g 34 4) (e.1.length : Int)) 37 (rI g 34 4) e.2) 34 4 ((rI g 34 4) + 1)) = some g5 := b1
    rw [b1']
    exact ⟨g5, rfl, b2⟩
/-- the row that a replacing makes -/
def Rsl (g : G2) (e : List Nat × Int64) : Prop := rI g 38 4 = 0 ∧ g.2.2.1 40 0 = (e.1.length : Int) ∧ RowAt (g.2.2.1 39) 0 e.1 ∧ g.2.2.2 41 0 = e.2
theorem c_put39 {S : RSt} {g : G2} (h : CRep S g) (hp : PuOk S) (e : List Nat × Int64) (he : Rsl g e) (hl : e.1.length ≤ 24) : OutC S (f_Proof_put_34_39 0 g) (putS S e) := by
  obtain ⟨u1, u2, u3, u4, u5⟩ := hp
  obtain ⟨w0, w1, w2, w3⟩ := he
  have p1 := (h.2.2.2.2.1 u1).1
  unfold f_Proof_put_34_39 putS
  rw [bd_some (c_full h.2.2.2.2.1 u1 u4)]
  by_cases q : 16 ≤ S.stk.length
  · rw [if_pos q, if_pos (by decide), if_neg (by decide), if_pos q]
    exact ⟨g, rfl, h.1, by decide, by decide⟩
  · rw [if_neg q, if_pos (by decide), if_pos rfl, if_neg q]
    have e12 : rA g 40 0 = (e.1.length : Int) := w1
    have e13 : rB g 41 0 = e.2 := w3
    have hc : f_Expressions_addCopy_35_39 0 g = some (gI (gB (gA (gC g 39 35 (0 * 24) ((rI g 34 4) * 24) (e.1.length : Int)) 36 (rI g 34 4) (e.1.length : Int)) 37 (rI g 34 4) e.2) 34 4 ((rI g 34 4) + 1)) := by
      unfold f_Expressions_addCopy_35_39
      rw [e12, e13, if_pos (by omega), if_pos (by omega), if_pos (by omega)]
    rw [hc, Option.bind_some]
    obtain ⟨g5, b1, b2⟩ := c_pushed h u1 u2 u3 u5 (by omega) 39 0 (by decide) e w2 (e.1.length : Int) rfl e.2 rfl (0 * 24) (by decide)
    have b1' : f_Assertions_noteStep_17 (rI (gI (gB (gA (gC g 39 35 (0 * 24) ((rI g 34 4) * 24) (e.1.length : Int)) 36 (rI g 34 4) (e.1.length : Int)) 37 (rI g 34 4) e.2) 34 4 ((rI g 34 4) + 1)) 34 4) (gI (gB (gA (gC g 39 35 (0 * 24) ((rI g 34 4) * 24) (e.1.length : Int)) 36 (rI g 34 4) (e.1.length : Int)) 37 (rI g 34 4) e.2) 34 4 ((rI g 34 4) + 1)) = some g5 := b1
    rw [b1']
    exact ⟨g5, rfl, b2⟩
/-! rows that are the same -/
theorem drop_eq {α : Type} {l : List α} {i : Nat} {x : α} (h : l[i]? = some x) : l.drop i = x :: l.drop (i + 1) := by
  have hl := lt_get h
  rw [List.drop_eq_getElem_cons hl]
  rw [List.getElem?_eq_getElem hl] at h
  injection h with h
  rw [h]
theorem c_same39L {g : G2} (r : Nat) (hr : r < 16) (a b : List Nat) (h36 : g.2.2.1 36 r = (a.length : Int)) (hab : a.length = b.length) (h24 : a.length ≤ 24) (ha : RowAt (g.2.2.1 35) (24 * r) a) (hb : RowAt (g.2.2.1 39) 0 b) (h60 : (∀ v ∈ a, v < 60) ∧ ∀ v ∈ b, v < 60) : ∀ (k m i : Nat), i + k = a.length → k < m → l_Expressions_isSame_35_39 m 0 (r : Int) 0 (i : Int) g = some (b01 (decide (a.drop i = b.drop i)), g) := by
  have e36 : rA g 36 ((r : Nat) : Int) = (a.length : Int) := h36
  intro k
  induction k with
  | zero =>
    intro m i hi hm
    obtain ⟨m, rfl⟩ : ∃ m', m = m' + 1 := ⟨m - 1, by omega⟩
    rw [s_Expressions_isSame_35_39_0]
    unfold b_Expressions_isSame_35_39_0
    rw [if_pos (by omega), if_pos (by omega), e36, if_pos (by omega), if_neg (by omega), List.drop_eq_nil_of_le (by omega), List.drop_eq_nil_of_le (by omega)]
    rfl
  | succ k ih =>
    intro m i hi hm
    obtain ⟨m, rfl⟩ : ∃ m', m = m' + 1 := ⟨m - 1, by omega⟩
    obtain ⟨x, hx⟩ := ex_get (l := a) (k := i) (by omega)
    obtain ⟨y, hy⟩ := ex_get (l := b) (k := i) (by omega)
    have hx60 := h60.1 x (List.mem_of_getElem? hx)
    have hy60 := h60.2 y (List.mem_of_getElem? hy)
    have ex : rA g 35 (((r : Int) * 24) + (i : Int)) = (x : Int) := by
      show g.2.2.1 35 (((r : Int) * 24) + (i : Int)).toNat = _
      rw [show (((r : Int) * 24) + (i : Int)).toNat = 24 * r + i by omega]; exact ha i x hx
    have ey : rA g 39 (((0 : Int) * 24) + (i : Int)) = (y : Int) := by
      show g.2.2.1 39 (((0 : Int) * 24) + (i : Int)).toNat = _
      rw [show (((0 : Int) * 24) + (i : Int)).toNat = 0 + i by omega]; exact hb i y hy
    rw [s_Expressions_isSame_35_39_0]
    unfold b_Expressions_isSame_35_39_0
    rw [if_pos (by omega), if_pos (by omega), e36, if_pos (by omega), if_pos (by omega), if_pos (by omega), if_pos (by omega), ex, ey, if_pos (by omega), if_pos (by omega), drop_eq hx, drop_eq hy]
    by_cases q : x = y
    · rw [if_pos (by omega)]
      have := ih m (i + 1) (by omega) (by omega)
      have t : ((i : Int) + 1) = ((i + 1 : Nat) : Int) := rfl
      rw [t, this]
      subst q
      simp
    · rw [if_neg (by omega)]
      simp [q]
theorem c_same39 {g : G2} (r : Nat) (hr : r < 16) (a b : List Nat) (h36 : g.2.2.1 36 r = (a.length : Int)) (h40 : g.2.2.1 40 0 = (b.length : Int)) (h24 : a.length ≤ 24 ∧ b.length ≤ 24) (ha : RowAt (g.2.2.1 35) (24 * r) a) (hb : RowAt (g.2.2.1 39) 0 b) (h60 : (∀ v ∈ a, v < 60) ∧ ∀ v ∈ b, v < 60) : f_Expressions_isSame_35_39 (r : Int) 0 g = some (b01 (decide (a = b)), g) := by
  have e36 : rA g 36 ((r : Nat) : Int) = (a.length : Int) := h36
  have e40 : rA g 40 0 = (b.length : Int) := h40
  unfold f_Expressions_isSame_35_39
  rw [if_pos (by omega), if_pos (by omega), e36, if_pos (by omega), e40, if_pos (by omega)]
  by_cases q : a.length = b.length
  · rw [if_pos (by omega)]
    exact c_same39L r hr a b h36 q h24.1 ha hb h60 a.length 20000 0 (by omega) (by omega)
  · rw [if_neg (by omega)]
    have : a ≠ b := fun z => q (by rw [z])
    simp [this]
theorem c_same11L {g : G2} (r q : Nat) (hr : r < 16) (hq : q < 40) (a b : List Nat) (h36 : g.2.2.1 36 r = (a.length : Int)) (hab : a.length = b.length) (h24 : a.length ≤ 24) (ha : RowAt (g.2.2.1 35) (24 * r) a) (hb : RowAt (g.2.2.1 11) (24 * q) b) (h60 : (∀ v ∈ a, v < 60) ∧ ∀ v ∈ b, v < 60) : ∀ (k m i : Nat), i + k = a.length → k < m → l_Expressions_isSame_35_11 m 0 (r : Int) (q : Int) (i : Int) g = some (b01 (decide (a.drop i = b.drop i)), g) := by
  have e36 : rA g 36 ((r : Nat) : Int) = (a.length : Int) := h36
  intro k
  induction k with
  | zero =>
    intro m i hi hm
    obtain ⟨m, rfl⟩ : ∃ m', m = m' + 1 := ⟨m - 1, by omega⟩
    rw [s_Expressions_isSame_35_11_0]
    unfold b_Expressions_isSame_35_11_0
    rw [if_pos (by omega), if_pos (by omega), e36, if_pos (by omega), if_neg (by omega), List.drop_eq_nil_of_le (by omega), List.drop_eq_nil_of_le (by omega)]
    rfl
  | succ k ih =>
    intro m i hi hm
    obtain ⟨m, rfl⟩ : ∃ m', m = m' + 1 := ⟨m - 1, by omega⟩
    obtain ⟨x, hx⟩ := ex_get (l := a) (k := i) (by omega)
    obtain ⟨y, hy⟩ := ex_get (l := b) (k := i) (by omega)
    have hx60 := h60.1 x (List.mem_of_getElem? hx)
    have hy60 := h60.2 y (List.mem_of_getElem? hy)
    have ex : rA g 35 (((r : Int) * 24) + (i : Int)) = (x : Int) := by
      show g.2.2.1 35 (((r : Int) * 24) + (i : Int)).toNat = _
      rw [show (((r : Int) * 24) + (i : Int)).toNat = 24 * r + i by omega]; exact ha i x hx
    have ey : rA g 11 (((q : Int) * 24) + (i : Int)) = (y : Int) := by
      show g.2.2.1 11 (((q : Int) * 24) + (i : Int)).toNat = _
      rw [show (((q : Int) * 24) + (i : Int)).toNat = 24 * q + i by omega]; exact hb i y hy
    rw [s_Expressions_isSame_35_11_0]
    unfold b_Expressions_isSame_35_11_0
    rw [if_pos (by omega), if_pos (by omega), e36, if_pos (by omega), if_pos (by omega), if_pos (by omega), if_pos (by omega), ex, ey, if_pos (by omega), if_pos (by omega), drop_eq hx, drop_eq hy]
    by_cases qq : x = y
    · rw [if_pos (by omega)]
      have := ih m (i + 1) (by omega) (by omega)
      have t : ((i : Int) + 1) = ((i + 1 : Nat) : Int) := rfl
      rw [t, this]
      subst qq
      simp
    · rw [if_neg (by omega)]
      simp [qq]
theorem c_same11 {g : G2} (r q : Nat) (hr : r < 16) (hq : q < 40) (a b : List Nat) (h36 : g.2.2.1 36 r = (a.length : Int)) (h40 : g.2.2.1 12 q = (b.length : Int)) (h24 : a.length ≤ 24 ∧ b.length ≤ 24) (ha : RowAt (g.2.2.1 35) (24 * r) a) (hb : RowAt (g.2.2.1 11) (24 * q) b) (h60 : (∀ v ∈ a, v < 60) ∧ ∀ v ∈ b, v < 60) : f_Expressions_isSame_35_11 (r : Int) (q : Int) g = some (b01 (decide (a = b)), g) := by
  have e36 : rA g 36 ((r : Nat) : Int) = (a.length : Int) := h36
  have e40 : rA g 12 ((q : Nat) : Int) = (b.length : Int) := h40
  unfold f_Expressions_isSame_35_11
  rw [if_pos (by omega), if_pos (by omega), e36, if_pos (by omega), e40, if_pos (by omega)]
  by_cases qq : a.length = b.length
  · rw [if_pos (by omega)]
    exact c_same11L r q hr hq a b h36 qq h24.1 ha hb h60 a.length 20000 0 (by omega) (by omega)
  · rw [if_neg (by omega)]
    have : a ≠ b := fun z => qq (by rw [z])
    simp [this]
