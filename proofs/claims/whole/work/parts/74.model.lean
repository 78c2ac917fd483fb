/-! ===== the model: words ===== -/
/-- the model's rows of words -/
def WM (g : G2) (ws : List (List Int)) : Prop := rI g 49 4 = (ws.length : Int) ∧ ws.length ≤ 801 ∧ ∀ (j : Nat) (l : List Int), ws[j]? = some l → WdOk l ∧ ∃ b : Nat, g.2.2.1 51 j = (b : Int) ∧ g.2.2.1 52 j = (l.length : Int) ∧ b + l.length ≤ 1600 ∧ ∀ i c, l[i]? = some c → g.2.2.1 50 (b + i) = c
def TXM (g : G2) (len : Nat) : Prop := len ≤ 1600 ∧ rI g 49 1 = (len : Int) ∧ ∀ i : Nat, i < len → 32 ≤ g.2.2.1 50 i ∧ g.2.2.1 50 i ≤ 126
/-- words found so far -/
def WF (g : G2) (ws : List (List Int)) : Prop := rI g 49 4 = (ws.length : Int) ∧ ∀ (j : Nat) (l : List Int), ws[j]? = some l → WdOk l ∧ ∃ b : Nat, g.2.2.1 51 j = (b : Int) ∧ g.2.2.1 52 j = (l.length : Int) ∧ b + l.length ≤ 1600 ∧ ∀ i c, l[i]? = some c → g.2.2.1 50 (b + i) = c
abbrev SW (g g' : G2) : Prop := (g'.2.2.1 50 = g.2.2.1 50 ∧ rI g' 49 1 = rI g 49 1) ∧ KK (fun r => r ≠ 49 ∧ r ≠ 51 ∧ r ≠ 52) g g'
theorem SW.rf {g : G2} : SW g g := ⟨⟨rfl, rfl⟩, KK.rf⟩
theorem SW.tr {a b c : G2} (h : SW a b) (k : SW b c) : SW a c := ⟨⟨k.1.1.trans h.1.1, k.1.2.trans h.1.2⟩, h.2.tr k.2⟩
theorem SW.tr' {a b c : G2} (k : SW b c) (h : SW a b) : SW a c := h.tr k
theorem TXM.sw {g g' : G2} {len : Nat} (h : TXM g len) (k : SW g g') : TXM g' len := ⟨h.1, k.1.2.trans h.2.1, fun i hi => by rw [k.1.1]; exact h.2.2 i hi⟩
/-- over spaces -/
theorem m_spaces {len : Nat} {g : G2} (ht : TXM g len) : ∀ (d m e : Nat) (i1 : Int), (∀ i, e ≤ i → i < e + d → g.2.2.1 50 i = 32) → e + d ≤ len → ∃ i2 : Int, l_M_findWords_50 (m + d) 0 i1 (e : Int) g = l_M_findWords_50 m 0 i2 ((e + d : Nat) : Int) g ∧ ((d = 0 ∧ i2 = i1) ∨ i2 = 0) := by
  obtain ⟨t1, t2, t3⟩ := ht
  intro d
  induction d with
  | zero => intro m e i1 _ _; exact ⟨i1, rfl, Or.inl ⟨rfl, rfl⟩⟩
  | succ d ih =>
    intro m e i1 hs hl
    obtain ⟨i2, a1, a2⟩ := ih m (e + 1) 0 (fun i h1 h2 => hs i (by omega) (by omega)) (by omega)
    have q3 := t3 e (by omega)
    have e50 : rA g 50 ((e : Nat) : Int) = 32 := hs e (by omega) (by omega)
    refine ⟨i2, ?_, Or.inr ?_⟩
    · rw [show m + (d + 1) = (m + d) + 1 by omega, s_M_findWords_50_0]
      unfold b_M_findWords_50_0
      rw [if_pos (by omega), if_pos (by omega), if_pos (by omega), if_pos (by omega), e50, if_pos (by decide), if_pos rfl]
      rw [show ((e : Int) + 1) = ((e + 1 : Nat) : Int) from rfl, a1, show e + 1 + d = e + (d + 1) by omega]
    · rcases a2 with ⟨_, z⟩ | z
      · exact z
      · exact z
/-- on in a word -/
theorem m_inword {len : Nat} (l : List Int) (b W : Nat) : ∀ (k m i : Nat) (g : G2), TXM g len → i + k = l.length → 1 ≤ i → W < 801 → rI g 49 4 = ((W + 1 : Nat) : Int) → g.2.2.1 52 W = (i : Int) → (∀ j c, l[j]? = some c → g.2.2.1 50 (b + j) = c ∧ c ≠ 32) → b + l.length ≤ len → ∃ g', l_M_findWords_50 (m + k) 0 1 ((b + i : Nat) : Int) g = l_M_findWords_50 m 0 1 ((b + l.length : Nat) : Int) g' ∧ SW g g' ∧ rI g' 49 4 = ((W + 1 : Nat) : Int) ∧ g'.2.2.1 52 W = (l.length : Int) ∧ g'.2.2.1 51 = g.2.2.1 51 ∧ ∀ p : Nat, p ≠ W → g'.2.2.1 52 p = g.2.2.1 52 p := by
  intro k
  induction k with
  | zero =>
    intro m i g ht hi h1 hW h4 h52 hw hl
    have e : i = l.length := by omega
    subst e
    exact ⟨g, rfl, SW.rf, h4, h52, rfl, fun _ _ => rfl⟩
  | succ k ih =>
    intro m i g ht hi h1 hW h4 h52 hw hl
    obtain ⟨t1, t2, t3⟩ := ht
    obtain ⟨c, hc⟩ := ex_get (l := l) (k := i) (by omega)
    obtain ⟨c1, c2⟩ := hw i c hc
    have q3 := t3 (b + i) (by omega)
    have e50 : rA g 50 ((b + i : Nat) : Int) = c := c1
    have eW : ((rI g 49 4) - 1).toNat = W := by rw [h4]; omega
    obtain ⟨g', a1, a2, a3, a4, a5, a6⟩ := ih m (i + 1) (gA g 52 ((rI g 49 4) - 1) ((rA g 52 ((rI g 49 4) - 1)) + 1)) ⟨t1, t2, t3⟩ (by omega) (by omega) hW h4 (by
      show am_upd (g.2.2.1 52) ((rI g 49 4) - 1).toNat (g.2.2.1 52 ((rI g 49 4) - 1).toNat + 1) W = _
      rw [eW, updN_at, h52]; rfl) hw hl
    refine ⟨g', ?_, SW.tr' a2 ⟨⟨rfl, rfl⟩, KK.a (by decide) KK.rf⟩, a3, a4, a5, fun p hp => ?_⟩
    · rw [show m + (k + 1) = (m + k) + 1 by omega, s_M_findWords_50_0]
      unfold b_M_findWords_50_0
      rw [if_pos (by omega), if_pos (by omega), if_pos (by omega), if_pos (by omega), e50, if_pos (by omega), if_neg c2, if_pos (by decide), if_neg (by decide), if_pos (by omega)]
      exact a1
    · rw [a6 p hp]
      show am_upd (g.2.2.1 52) ((rI g 49 4) - 1).toNat _ p = _
      rw [eW, am_updN hp]
theorem m_find {len : Nat} : ∀ (ws don : List (List Int)) (m e : Nat) (i1 : Int) (g : G2), TXM g len → Cut (g.2.2.1 50) len e ws → (i1 = 0 ∨ (i1 = 1 ∧ (e = len ∨ g.2.2.1 50 e = 32))) → WF g don → don.length + ws.length ≤ 801 → (len - e) < m → ∃ g', l_M_findWords_50 m 0 i1 (e : Int) g = some g' ∧ WF g' (don ++ ws) ∧ SW g g' := by
  intro ws
  induction ws with
  | nil =>
    intro don m e i1 g ht hc hin hf hl hm
    obtain ⟨c1, c2⟩ := hc
    obtain ⟨m, rfl⟩ : ∃ m', m = (m' + 1) + (len - e) := ⟨m - 1 - (len - e), by omega⟩
    obtain ⟨i2, a1, a2⟩ := m_spaces ht (len - e) (m + 1) e i1 (fun i h1 h2 => c2 i h1 (by omega)) (by omega)
    have t2 := ht.2.1
    have t1 := ht.1
    refine ⟨g, ?_, by rw [List.append_nil]; exact hf, SW.rf⟩
    rw [a1, s_M_findWords_50_0]
    unfold b_M_findWords_50_0
    rw [if_pos (by omega), if_pos (by omega), if_neg (by omega)]
  | cons l ws ih =>
    intro don m e i1 g ht hc hin hf hl hm
    obtain ⟨b, c1, c2, c3, c4, c5, c6, c7⟩ := hc
    have hl0 : 0 < l.length := List.length_pos_iff.mpr c3
    rw [List.length_cons] at hl
    obtain ⟨m, rfl⟩ : ∃ m', m = (m' + (l.length - 1) + 1) + (b - e) := ⟨m - (b - e) - 1 - (l.length - 1), by omega⟩
    obtain ⟨i2, a1, a2⟩ := m_spaces ht (b - e) (m + (l.length - 1) + 1) e i1 (fun i h1 h2 => c2 i h1 (by omega)) (by omega)
    rw [show e + (b - e) = b by omega] at a1
    have ht' := ht
    obtain ⟨t1, t2, t3⟩ := ht
    obtain ⟨c, hcc⟩ := ex_get (l := l) (k := 0) hl0
    obtain ⟨d1, d2⟩ := c5 0 c hcc
    rw [Nat.add_zero] at d1
    have q3 := t3 b (by omega)
    have e50 : rA g 50 ((b : Nat) : Int) = c := d1
    have hi2 : i2 = 0 := by
      rcases a2 with ⟨z1, z2⟩ | z
      · rcases hin with w | ⟨w1, w2⟩
        · rw [z2]; exact w
        · exfalso
          have eb : b = e := by omega
          rcases w2 with w2 | w2
          · omega
          · rw [← eb] at w2; rw [w2] at d1; exact d2 d1.symm
      · exact z
    obtain ⟨f1, f2⟩ := hf
    have eW : (rI g 49 4).toNat = don.length := by rw [f1, Int.toNat_natCast]
    have eW1 : (((rI g 49 4) + 1) - 1).toNat = don.length := by rw [f1]; omega
    obtain ⟨g1, b1, b2, b3, b4, b5, b6⟩ := m_inword (len := len) l b don.length (l.length - 1) m 1 (gA (gI (gA (gA g 51 (rI g 49 4) (b : Int)) 52 (rI g 49 4) 0) 49 4 ((rI g 49 4) + 1)) 52 (((rI g 49 4) + 1) - 1) ((rA (gA g 52 (rI g 49 4) 0) 52 (((rI g 49 4) + 1) - 1)) + 1)) ⟨t1, t2, t3⟩ (by omega) (by omega) (by omega) (by
        show rI g 49 4 + 1 = _
        rw [f1]; rfl) (by
        show am_upd (am_upd (g.2.2.1 52) (rI g 49 4).toNat 0) (((rI g 49 4) + 1) - 1).toNat ((am_upd (g.2.2.1 52) (rI g 49 4).toNat 0) (((rI g 49 4) + 1) - 1).toNat + 1) don.length = _
        rw [eW, eW1, updN_at, updN_at]; rfl) c5 c4
    have s1 : SW g g1 := SW.tr' b2 ⟨⟨rfl, rfl⟩, KK.a (by decide) (KK.i (by decide) (KK.a (by decide) (KK.a (by decide) KK.rf)))⟩
    have hwd : WdOk l := ⟨c3, fun x hx => by
      obtain ⟨i, hi⟩ := List.getElem?_of_mem hx
      have h1 := c5 i x hi
      have h2 := lt_get hi
      have h3 := t3 (b + i) (by omega)
      omega⟩
    obtain ⟨g', x1, x2, x3⟩ := ih (don ++ [l]) m (b + l.length) 1 g1 (ht'.sw s1) (by rw [s1.1.1]; exact c7) (Or.inr ⟨rfl, by rw [s1.1.1]; exact c6⟩) ⟨by rw [b3, List.length_append]; rfl, fun j w hj => by
        rcases ap_get hj with ⟨y1, y2⟩ | ⟨y1, y2⟩
        · obtain ⟨z1, bb, z2, z3, z4, z5⟩ := f2 j w y2
          refine ⟨z1, bb, ?_, ?_, z4, by rw [s1.1.1]; exact z5⟩
          · rw [b5]
            show am_upd (g.2.2.1 51) (rI g 49 4).toNat _ j = _
            rw [eW, am_updN (by omega)]; exact z2
          · rw [b6 j (by omega)]
            show am_upd (am_upd (g.2.2.1 52) (rI g 49 4).toNat 0) (((rI g 49 4) + 1) - 1).toNat _ j = _
            rw [eW, eW1, am_updN (by omega), am_updN (by omega)]; exact z3
        · subst y1; subst y2
          refine ⟨hwd, b, ?_, b4, by omega, by rw [s1.1.1]; exact fun i c hi => (c5 i c hi).1⟩
          rw [b5]
          show am_upd (g.2.2.1 51) (rI g 49 4).toNat _ don.length = _
          rw [eW, updN_at]⟩ (by rw [List.length_append]; simp only [List.length_cons, List.length_nil]; omega) (by omega)
    refine ⟨g', ?_, by rw [List.append_assoc] at x2; exact x2, s1.tr x3⟩
    rw [a1, hi2, s_M_findWords_50_0]
    unfold b_M_findWords_50_0
    rw [if_pos (by omega), if_pos (by omega), if_pos (by omega), if_pos (by omega), e50, if_pos (by omega), if_neg d2, if_pos (by decide), if_pos rfl, if_pos (by omega), if_pos (by omega)]
    have t : ((b : Int) + 1) = ((b + 1 : Nat) : Int) := rfl
    rw [t, b1]
    exact x1
theorem m_findWords {len : Nat} (g : G2) (ht : TXM g len) (ws : List (List Int)) (hc : Cut (g.2.2.1 50) len 0 ws) (hw : ws.length ≤ 801) : ∃ g', f_M_findWords_50 g = some g' ∧ WM g' ws ∧ SW g g' := by
  obtain ⟨g', a1, ⟨a2, a3⟩, a4⟩ := m_find (len := len) ws [] 20000 0 0 (gI g 49 4 0) ht hc (Or.inl rfl) ⟨rfl, fun j l h => by simp at h⟩ (by simpa using hw) (by have := ht.1; omega)
  exact ⟨g', a1, ⟨a2, hw, a3⟩, SW.tr' a4 ⟨⟨rfl, rfl⟩, KK.i (by decide) KK.rf⟩⟩
theorem m_letter {g : G2} {ws : List (List Int)} (h : WM g ws) {j : Nat} {l : List Int} (hj : ws[j]? = some l) {i : Nat} {c : Int} (hi : l[i]? = some c) : f_M_letter_50 (j : Int) (i : Int) g = some (c, g) := by
  obtain ⟨h1, h2, h3⟩ := h
  obtain ⟨_, b, b1, b2, b3, b4⟩ := h3 j l hj
  have hjl := lt_get hj
  have hil := lt_get hi
  have e52 : rA g 52 ((j : Nat) : Int) = (l.length : Int) := b2
  have e51 : rA g 51 ((j : Nat) : Int) = (b : Int) := b1
  unfold f_M_letter_50
  rw [if_pos (by omega), if_pos (by omega), e52, if_pos (by omega), if_pos (by omega), e51, if_pos (by omega)]
  have e : rA g 50 ((b : Int) + (i : Int)) = c := by
    show g.2.2.1 50 ((b : Int) + (i : Int)).toNat = c
    rw [show ((b : Int) + (i : Int)).toNat = b + i by omega]; exact b4 i c hi
  rw [e]
theorem m_isTwo {g : G2} {ws : List (List Int)} (h : WM g ws) {j : Nat} {l : List Int} (hj : ws[j]? = some l) (y : Int) (hy : ir y) : f_M_isTwo_50 (j : Int) 36 y g = some (b01 (decide (l = [36, y])), g) := by
  have h' := h
  obtain ⟨h1, h2, h3⟩ := h
  obtain ⟨hok, b, b1, b2, b3, b4⟩ := h3 j l hj
  have hjl := lt_get hj
  have e52 : rA g 52 ((j : Nat) : Int) = (l.length : Int) := b2
  unfold f_M_isTwo_50
  rw [if_pos (by omega), e52, if_pos (by omega)]
  by_cases q : l.length = 2
  · rw [if_pos (by omega)]
    match l, q, hj, hok with
    | [c, d], _, hj, hok =>
      have o1 := hok.2 c (by simp)
      have o2 := hok.2 d (by simp)
      have l0 : f_M_letter_50 (j : Int) 0 g = some (c, g) := m_letter h' hj (i := 0) rfl
      have l1 : f_M_letter_50 (j : Int) 1 g = some (d, g) := m_letter h' hj (i := 1) rfl
      rw [bd_some l0, if_pos (by omega), if_pos (by decide)]
      by_cases q1 : c = 36
      · rw [if_pos q1, bd_some l1, if_pos (by omega), if_pos hy]
        by_cases q2 : d = y
        · rw [if_pos q2, decide_eq_true (by rw [q1, q2])]; rfl
        · rw [if_neg q2, decide_eq_false (fun z => q2 (List.cons.inj (List.cons.inj z).2).1)]; rfl
      · rw [if_neg q1, decide_eq_false (fun z => q1 (List.cons.inj z).1)]; rfl
  · rw [if_neg (by omega), decide_eq_false (fun z => q (by rw [z]; rfl))]; rfl
theorem m_codeL {g : G2} {ws : List (List Int)} (h : WM g ws) {j : Nat} {l : List Int} (hj : ws[j]? = some l) : ∀ (k m i : Nat) (v : Int64), i + k = l.length → k < m → l_M_codeOf_50 m 0 (j : Int) v (i : Int) g = some ((l.drop i).foldl (fun v c => v * Int64.ofNat 128 + am_i2l c) v, g) := by
  have h' := h
  obtain ⟨h1, h2, h3⟩ := h
  obtain ⟨hok, b, b1, b2, b3, b4⟩ := h3 j l hj
  have hjl := lt_get hj
  have e52 : rA g 52 ((j : Nat) : Int) = (l.length : Int) := b2
  intro k
  induction k with
  | zero =>
    intro m i v hi hm
    obtain ⟨m, rfl⟩ : ∃ m', m = m' + 1 := ⟨m - 1, by omega⟩
    rw [s_M_codeOf_50_0, List.drop_eq_nil_of_le (by omega)]
    unfold b_M_codeOf_50_0
    rw [if_pos (by omega), if_pos (by omega), e52, if_pos (by omega), if_neg (by omega)]
    rfl
  | succ k ih =>
    intro m i v hi hm
    obtain ⟨m, rfl⟩ : ∃ m', m = m' + 1 := ⟨m - 1, by omega⟩
    obtain ⟨c, hc⟩ := ex_get (l := l) (k := i) (by omega)
    rw [s_M_codeOf_50_0, drop_eq hc, List.foldl_cons]
    unfold b_M_codeOf_50_0
    rw [if_pos (by omega), if_pos (by omega), e52, if_pos (by omega), if_pos (by omega), bd_some (m_letter h' hj hc)]
    exact ih m (i + 1) _ (by omega) (by omega)
theorem m_code {g : G2} {ws : List (List Int)} (h : WM g ws) {j : Nat} {l : List Int} (hj : ws[j]? = some l) : f_M_codeOf_50 (j : Int) g = some (cdOf l, g) := by
  have hl : l.length ≤ 1600 := by
    obtain ⟨_, b, _, _, b3, _⟩ := h.2.2 j l hj
    omega
  have := m_codeL h hj l.length 20000 0 (Int64.ofNat 0) (by omega) (by omega)
  rw [List.drop_zero] at this
  exact this
