/-! ===== the words of a text: the class's side ===== -/
/-- from place e on the text holds these words -/
def Cut (t : Nat → Int) (len : Nat) : Nat → List (List Int) → Prop
  | e, [] => e ≤ len ∧ ∀ i, e ≤ i → i < len → t i = 32
  | e, l :: ws => ∃ b, e ≤ b ∧ (∀ i, e ≤ i → i < b → t i = 32) ∧ l ≠ [] ∧ b + l.length ≤ len ∧ (∀ i c, l[i]? = some c → t (b + i) = c ∧ c ≠ 32) ∧ (b + l.length = len ∨ t (b + l.length) = 32) ∧ Cut t len (b + l.length) ws
theorem run_ex (p : Nat → Prop) (e : Nat) : ∀ d, ∃ b, e ≤ b ∧ b ≤ e + d ∧ (∀ i, e ≤ i → i < b → p i) ∧ (b = e + d ∨ ¬ p b) := by
  intro d
  induction d with
  | zero => exact ⟨e, Nat.le_refl _, Nat.le_refl _, fun i h1 h2 => absurd h2 (by omega), Or.inl rfl⟩
  | succ d ih =>
    obtain ⟨b, h1, h2, h3, h4⟩ := ih
    rcases h4 with h4 | h4
    · rcases Classical.em (p b) with q | q
      · refine ⟨b + 1, by omega, by omega, fun i k1 k2 => ?_, Or.inl (by omega)⟩
        rcases Nat.lt_or_ge i b with q2 | q2
        · exact h3 i k1 q2
        · have e1 : i = b := by omega
          subst e1; exact q
      · exact ⟨b, h1, by omega, h3, Or.inr q⟩
    · exact ⟨b, h1, by omega, h3, Or.inr h4⟩
theorem cut_ex (t : Nat → Int) (len : Nat) : ∀ d e, e + d = len → ∃ ws, Cut t len e ws ∧ 2 * ws.length ≤ d + 1 := by
  intro d
  induction d using Nat.strongRecOn with
  | ind d ih =>
    intro e he
    obtain ⟨b, h1, h2, h3, h4⟩ := run_ex (fun i => t i = 32) e d
    rcases Nat.lt_or_ge b (e + d) with hb | hb
    · have h5 : t b ≠ 32 := by
        rcases h4 with q | q
        · omega
        · exact q
      obtain ⟨c, k1, k2, k3, k4⟩ := run_ex (fun i => t i ≠ 32) b (len - b)
      have hc : b < c := by
        rcases Nat.lt_or_ge b c with q | q
        · exact q
        · exfalso
          have e1 : c = b := by omega
          subst e1
          rcases k4 with q2 | q2
          · omega
          · exact q2 h5
      have hl : ((List.range (c - b)).map (fun i => t (b + i))).length = c - b := by simp
      have hw : (∀ i z, ((List.range (c - b)).map (fun i => t (b + i)))[i]? = some z → t (b + i) = z ∧ z ≠ 32) := by
        intro i z hz
        rw [List.getElem?_map] at hz
        rcases Nat.lt_or_ge i (c - b) with q | q
        · rw [List.getElem?_range q] at hz
          simp at hz
          subst hz
          exact ⟨rfl, k3 (b + i) (by omega) (by omega)⟩
        · rw [List.getElem?_eq_none (by simp; omega)] at hz
          simp at hz
      have hn : ((List.range (c - b)).map (fun i => t (b + i))) ≠ [] := by
        intro q
        rw [q] at hl
        simp at hl
        omega
      rcases Nat.lt_or_ge c len with q | q
      · obtain ⟨ws, w1, w2⟩ := ih (len - (c + 1)) (by omega) (c + 1) (by omega)
        have hs : t c = 32 := by
          rcases k4 with q2 | q2
          · omega
          · exact Classical.byContradiction q2
        have w3 : Cut t len c ws := by
          cases ws with
          | nil =>
            refine ⟨by omega, fun i i1 i2 => ?_⟩
            rcases Nat.lt_or_ge c i with q3 | q3
            · exact w1.2 i (by omega) i2
            · have e1 : i = c := by omega
              subst e1; exact hs
          | cons x ws =>
            obtain ⟨b2, j1, j2, j3⟩ := w1
            refine ⟨b2, by omega, fun i i1 i2 => ?_, j3⟩
            rcases Nat.lt_or_ge c i with q3 | q3
            · exact j2 i (by omega) i2
            · have e1 : i = c := by omega
              subst e1; exact hs
        refine ⟨((List.range (c - b)).map (fun i => t (b + i))) :: ws, ⟨b, h1, h3, hn, by rw [hl]; omega, hw, Or.inr ?_, ?_⟩, ?_⟩
        · rw [hl, show b + (c - b) = c by omega]; exact hs
        · rw [hl, show b + (c - b) = c by omega]; exact w3
        · simp; omega
      · have e1 : c = len := by omega
        refine ⟨[(List.range (c - b)).map (fun i => t (b + i))], ⟨b, h1, h3, hn, by rw [hl]; omega, hw, Or.inl (by rw [hl]; omega), by rw [hl]; omega, fun i i1 i2 => ?_⟩, ?_⟩
        · rw [hl] at i1; omega
        · simp; omega
    · exact ⟨[], ⟨by omega, fun i k1 k2 => h3 i k1 (by omega)⟩, by simp⟩
/-- nothing but the cell 1 differs -/
abbrev c1 (r : Nat) : Prop := r ≠ 1
abbrev b01 (b : Bool) : Int := if b = true then 1 else 0
def TXT (g : G2) (len : Nat) : Prop := len ≤ 1600 ∧ rI g 1 1 = len ∧ ∀ i : Nat, i < len → 32 ≤ g.2.2.1 2 i ∧ g.2.2.1 2 i ≤ 126
theorem sc_0 (len : Nat) : ∀ d m (i : Nat) (g : G2), TXT g len → rI g 1 3 = i → (∀ j, i ≤ j → j < i + d → g.2.2.1 2 j = 32) → i + d ≤ len → (i + d = len ∨ g.2.2.1 2 (i + d) ≠ 32) → ∃ g', l_Text_scanWord_2 (m + d + 1) 0 g = l_Text_scanWord_2 m 1 g' ∧ KK c1 g g' ∧ rI g' 1 3 = ((i + d : Nat) : Int) ∧ rI g' 1 1 = rI g 1 1 ∧ rI g' 1 2 = rI g 1 2 ∧ rI g' 1 7 = rI g 1 7 := by
  intro d
  induction d with
  | zero =>
    intro m i g ht hi _ hl he
    obtain ⟨t1, t2, t3⟩ := ht
    refine ⟨g, ?_, KK.rf, by simpa using hi, rfl, rfl, rfl⟩
    rw [Nat.add_zero, s_Text_scanWord_2_0]
    unfold b_Text_scanWord_2_0
    rw [if_pos (by omega), if_pos (by omega)]
    rcases Nat.lt_or_ge i len with q | q
    · have q2 : g.2.2.1 2 i ≠ 32 := by
        rcases he with he | he
        · omega
        · simpa using he
      have q3 := t3 i q
      have e1 : rA g 2 (rI g 1 3) = g.2.2.1 2 i := by rw [hi]; rfl
      rw [if_pos (by omega), if_pos (by omega), e1, if_pos (by omega), if_neg q2]
    · rw [if_neg (by omega)]
  | succ d ih =>
    intro m i g ht hi hs hl he
    have ht' := ht
    obtain ⟨t1, t2, t3⟩ := ht
    have q3 := t3 i (by omega)
    have q2 : g.2.2.1 2 i = 32 := hs i (by omega) (by omega)
    obtain ⟨g', a1, a2, a3, a4, a5, a6⟩ := ih m (i + 1) (gI g 1 3 ((rI g 1 3) + 1)) ht' (by show rI g 1 3 + 1 = _; omega) (fun j j1 j2 => hs j (by omega) (by omega)) (by omega) (by
      rcases he with he | he
      · exact Or.inl (by omega)
      · exact Or.inr (by rw [show i + 1 + d = i + (d + 1) by omega]; exact he))
    refine ⟨g', ?_, (KK.i (by decide) KK.rf).tr a2, by rw [a3]; omega, a4, a5, a6⟩
    rw [show m + (d + 1) + 1 = (m + d + 1) + 1 by omega, s_Text_scanWord_2_0]
    unfold b_Text_scanWord_2_0
    have e1 : rA g 2 (rI g 1 3) = g.2.2.1 2 i := by rw [hi]; rfl
    rw [if_pos (by omega), if_pos (by omega), if_pos (by omega), if_pos (by omega), e1, if_pos (by omega), if_pos q2]
    exact a1
theorem sc_2 (len : Nat) : ∀ (l : List Int) m (i : Nat) (v : Int64) (k : Bool) (g : G2), TXT g len → rI g 1 4 = i → rJ g 1 5 = v → rI g 1 6 = b01 k → (∀ j c, l[j]? = some c → g.2.2.1 2 (i + j) = c ∧ c ≠ 32) → i + l.length ≤ len → (i + l.length = len ∨ g.2.2.1 2 (i + l.length) = 32) → ∃ g', l_Text_scanWord_2 (m + l.length + 1) 2 g = l_Text_scanWord_2 m 3 g' ∧ KK c1 g g' ∧ rI g' 1 4 = ((i + l.length : Nat) : Int) ∧ rJ g' 1 5 = l.foldl (fun v c => v * Int64.ofNat 128 + am_i2l c) v ∧ rI g' 1 6 = b01 (k || decide (36 ∈ l)) ∧ rI g' 1 3 = rI g 1 3 ∧ rI g' 1 1 = rI g 1 1 ∧ rI g' 1 2 = rI g 1 2 ∧ rI g' 1 7 = rI g 1 7 := by
  intro l
  induction l with
  | nil =>
    intro m i v k g ht hi hv hk _ hl he
    obtain ⟨t1, t2, t3⟩ := ht
    refine ⟨g, ?_, KK.rf, by simpa using hi, hv, by simpa using hk, rfl, rfl, rfl, rfl⟩
    rw [List.length_nil, Nat.add_zero, s_Text_scanWord_2_2]
    unfold b_Text_scanWord_2_2
    rw [if_pos (by omega), if_pos (by omega)]
    simp only [List.length_nil, Nat.add_zero] at he
    rcases Nat.lt_or_ge i len with q | q
    · have q2 : g.2.2.1 2 i = 32 := by
        rcases he with he | he
        · omega
        · exact he
      have e1 : rA g 2 (rI g 1 4) = g.2.2.1 2 i := by rw [hi]; rfl
      rw [if_pos (by omega), if_pos (by omega), e1, if_pos (by omega), if_pos q2]
    · rw [if_neg (by omega)]
  | cons c l ih =>
    intro m i v k g ht hi hv hk hw hl he
    have ht' := ht
    obtain ⟨t1, t2, t3⟩ := ht
    simp only [List.length_cons] at hl he ⊢
    have q3 := t3 i (by omega)
    obtain ⟨q2, q4⟩ := hw 0 c (by simp)
    rw [Nat.add_zero] at q2
    have e1 : rA g 2 (rI g 1 4) = c := by rw [hi]; exact q2
    have hw' : ∀ j c', l[j]? = some c' → g.2.2.1 2 (i + 1 + j) = c' ∧ c' ≠ 32 := by
      intro j c' hj
      have := hw (j + 1) c' (by simpa using hj)
      rw [show i + 1 + j = i + (j + 1) by omega]
      exact this
    have he' : i + 1 + l.length = len ∨ g.2.2.1 2 (i + 1 + l.length) = 32 := by
      rw [show i + 1 + l.length = i + (l.length + 1) by omega]; exact he
    have go : ∀ k2 : Bool, k2 = (k || decide (c = 36)) → ∃ g', l_Text_scanWord_2 (m + l.length + 1) 2 (gI (gI (gJ g 1 5 (((rJ g 1 5) * (Int64.ofNat 128)) + (am_i2l (rA g 2 (rI g 1 4))))) 1 6 (b01 k2)) 1 4 ((rI g 1 4) + 1)) = l_Text_scanWord_2 m 3 g' ∧ KK c1 g g' ∧ rI g' 1 4 = ((i + (l.length + 1) : Nat) : Int) ∧ rJ g' 1 5 = (c :: l).foldl (fun v c => v * Int64.ofNat 128 + am_i2l c) v ∧ rI g' 1 6 = b01 (k || decide (36 ∈ c :: l)) ∧ rI g' 1 3 = rI g 1 3 ∧ rI g' 1 1 = rI g 1 1 ∧ rI g' 1 2 = rI g 1 2 ∧ rI g' 1 7 = rI g 1 7 := by
      intro k2 hk2
      obtain ⟨g', a1, a2, a3, a4, a5, a6⟩ := ih m (i + 1) (v * Int64.ofNat 128 + am_i2l c) k2 (gI (gI (gJ g 1 5 (((rJ g 1 5) * (Int64.ofNat 128)) + (am_i2l (rA g 2 (rI g 1 4))))) 1 6 (b01 k2)) 1 4 ((rI g 1 4) + 1)) ht' (by show rI g 1 4 + 1 = _; omega) (by show rJ g 1 5 * _ + _ = _; rw [hv, e1]) rfl hw' (by omega) he'
      refine ⟨g', a1, (KK.i (by decide) (KK.i (by decide) (KK.j (by decide) KK.rf))).tr a2, by rw [a3]; omega, a4, ?_, a6⟩
      rw [a5, hk2]
      by_cases h36 : c = 36
      · subst h36; simp
      · have : ¬ (36 : Int) = c := fun h => h36 h.symm
        simp [h36, this]
    rw [show m + (l.length + 1) + 1 = (m + l.length + 1) + 1 by omega, s_Text_scanWord_2_2]
    unfold b_Text_scanWord_2_2
    rw [if_pos (by omega), if_pos (by omega), if_pos (by omega), if_pos (by omega), if_pos (by rw [e1]; omega), if_neg (by rw [e1]; exact q4)]
    cases k with
    | false =>
      have hk' : rI g 1 6 = 0 := hk
      rw [if_pos (by omega), if_pos hk']
      by_cases h36 : c = 36
      · rw [if_pos (by rw [e1]; exact h36)]
        exact go true (by simp [h36])
      · rw [if_neg (by rw [e1]; exact h36)]
        exact go false (by simp [h36])
    | true =>
      have hk' : rI g 1 6 = 1 := hk
      rw [if_pos (by omega), if_neg (by omega)]
      exact go true (by simp)
/-- the class stands at a word -/
def WordC (g : G2) (l : List Int) : Prop := ∃ b : Nat, rI g 1 3 = b ∧ rI g 1 4 = ((b + l.length : Nat) : Int) ∧ b + l.length ≤ 1600 ∧ (∀ i c, l[i]? = some c → g.2.2.1 2 (b + i) = c) ∧ rJ g 1 5 = cdOf l ∧ rI g 1 6 = b01 (decide (36 ∈ l))
/-- a word's characters -/
def WdOk (l : List Int) : Prop := l ≠ [] ∧ ∀ c ∈ l, 33 ≤ c ∧ c ≤ 126
theorem e_scan_no (len e : Nat) (g : G2) (ht : TXT g len) (he : rI g 1 4 = e) (hc : Cut (g.2.2.1 2) len e []) : ∃ g', f_Text_scanWord_2 g = some (0, g') ∧ KK c1 g g' ∧ rI g' 1 1 = rI g 1 1 ∧ rI g' 1 2 = rI g 1 2 ∧ rI g' 1 7 = rI g 1 7 := by
  obtain ⟨c1', c2⟩ := hc
  have ht' := ht
  obtain ⟨t1, t2, t3⟩ := ht
  obtain ⟨g1, a1, a2, a3, a4, a5, a6⟩ := sc_0 len (len - e) (18397 + (1602 - (len - e))) e (gI g 1 3 (rI g 1 4)) ht' he (fun j j1 j2 => c2 j j1 (by omega)) (by omega) (Or.inl (by omega))
  have ht1 : TXT (gI (gJ (gI g1 1 4 (rI g1 1 3)) 1 5 (Int64.ofNat 0)) 1 6 0) len := ⟨t1, a4.trans t2, fun i hi => by rw [show (gI (gJ (gI g1 1 4 (rI g1 1 3)) 1 5 (Int64.ofNat 0)) 1 6 0).2.2.1 2 = g.2.2.1 2 from (a2 2 (by decide)).2.2.1]; exact t3 i hi⟩
  obtain ⟨g2, b1, b2, b3, b4, b5, b6, b7, b8, b9⟩ := sc_2 len [] (18397 + (1602 - (len - e)) - 2) len (Int64.ofNat 0) false _ ht1 (by show rI g1 1 3 = _; rw [a3]; omega) rfl rfl (fun j c h => by simp at h) (by simp) (Or.inl (by simp))
  refine ⟨g2, ?_, (KK.i (by decide) KK.rf).tr (a2.tr ((KK.i (by decide) (KK.j (by decide) (KK.i (by decide) KK.rf))).tr b2)), b7.trans a4, b8.trans a5, b9.trans a6⟩
  show l_Text_scanWord_2 20000 0 _ = _
  rw [show (20000 : Nat) = (18397 + (1602 - (len - e))) + (len - e) + 1 by omega, a1, show 18397 + (1602 - (len - e)) = (18397 + (1602 - (len - e)) - 2 + 0 + 1) + 1 by omega, s_Text_scanWord_2_1]
  unfold b_Text_scanWord_2_1
  rw [show 18397 + (1602 - (len - e)) - 2 + 0 + 1 = 18397 + (1602 - (len - e)) - 2 + ([] : List Int).length + 1 by simp, b1, show 18397 + (1602 - (len - e)) - 2 = (18397 + (1602 - (len - e)) - 3) + 1 by omega, s_Text_scanWord_2_3]
  unfold b_Text_scanWord_2_3
  have e3 : rI g2 1 3 = (len : Int) := by rw [b6]; show rI g1 1 3 = _; rw [a3]; omega
  simp only [List.length_nil, Nat.add_zero] at b3
  rw [if_pos (by omega), if_pos (by omega), if_pos (by omega)]
theorem e_scan_yes (len e : Nat) (l : List Int) (ws : List (List Int)) (g : G2) (ht : TXT g len) (he : rI g 1 4 = e) (hc : Cut (g.2.2.1 2) len e (l :: ws)) : ∃ (g' : G2) (e' : Nat), f_Text_scanWord_2 g = some (1, g') ∧ KK c1 g g' ∧ rI g' 1 1 = rI g 1 1 ∧ rI g' 1 2 = rI g 1 2 + 1 ∧ rI g' 1 7 = rI g 1 7 ∧ WordC g' l ∧ WdOk l ∧ rI g' 1 4 = e' ∧ Cut (g'.2.2.1 2) len e' ws := by
  obtain ⟨b, c1', c2, c3, c4, c5, c6, c7⟩ := hc
  have ht' := ht
  obtain ⟨t1, t2, t3⟩ := ht
  have hl0 : 0 < l.length := List.length_pos_iff.mpr c3
  have hne : g.2.2.1 2 b ≠ 32 := by
    obtain ⟨c, hcc⟩ : ∃ c, l[0]? = some c := ⟨l[0], List.getElem?_eq_getElem hl0⟩
    have := c5 0 c hcc
    rw [Nat.add_zero] at this
    rw [this.1]; exact this.2
  obtain ⟨g1, a1, a2, a3, a4, a5, a6⟩ := sc_0 len (b - e) (18397 + (1602 - (b - e))) e (gI g 1 3 (rI g 1 4)) ht' he (fun j j1 j2 => c2 j j1 (by omega)) (by omega) (Or.inr (by rw [show e + (b - e) = b by omega]; exact hne))
  rw [show e + (b - e) = b by omega] at a3
  have e22 : (gI (gJ (gI g1 1 4 (rI g1 1 3)) 1 5 (Int64.ofNat 0)) 1 6 0).2.2.1 2 = g.2.2.1 2 := (a2 2 (by decide)).2.2.1
  have ht1 : TXT (gI (gJ (gI g1 1 4 (rI g1 1 3)) 1 5 (Int64.ofNat 0)) 1 6 0) len := ⟨t1, a4.trans t2, fun i hi => by rw [e22]; exact t3 i hi⟩
  obtain ⟨g2, b1, b2, b3, b4, b5, b6, b7, b8, b9⟩ := sc_2 len l (18397 + (1602 - (b - e)) - l.length - 2) b (Int64.ofNat 0) false _ ht1 (by show rI g1 1 3 = _; exact a3) rfl rfl (by rw [e22]; exact c5) c4 (by rw [e22]; exact c6)
  have f3 : rI g2 1 3 = (b : Int) := by rw [b6]; exact a3
  have f22 : g2.2.2.1 2 = g.2.2.1 2 := ((b2 2 (by decide)).2.2.1).trans e22
  refine ⟨gI g2 1 2 ((rI g2 1 2) + 1), b + l.length, ?_, (KK.i (by decide) KK.rf).tr (a2.tr ((KK.i (by decide) (KK.j (by decide) (KK.i (by decide) KK.rf))).tr (b2.tr (KK.i (by decide) KK.rf)))), b7.trans a4, ?_, b9.trans a6, ⟨b, f3, b3, by omega, ?_, b4, ?_⟩, ⟨c3, ?_⟩, b3, ?_⟩
  · show l_Text_scanWord_2 20000 0 _ = _
    rw [show (20000 : Nat) = (18397 + (1602 - (b - e))) + (b - e) + 1 by omega, a1, show 18397 + (1602 - (b - e)) = (18397 + (1602 - (b - e)) - l.length - 2 + l.length + 1) + 1 by omega, s_Text_scanWord_2_1]
    unfold b_Text_scanWord_2_1
    rw [b1, show 18397 + (1602 - (b - e)) - l.length - 2 = (18397 + (1602 - (b - e)) - l.length - 3) + 1 by omega, s_Text_scanWord_2_3]
    unfold b_Text_scanWord_2_3
    rw [if_pos (by omega), if_pos (by omega), if_neg (by omega)]
  · show rI g2 1 2 + 1 = _
    rw [b8]
    show rI g1 1 2 + 1 = _
    rw [a5]
    rfl
  · intro i c hi
    show g2.2.2.1 2 (b + i) = c
    rw [f22]
    exact (c5 i c hi).1
  · show rI g2 1 6 = _
    rw [b5]; simp
  · intro c hcm
    obtain ⟨i, hi⟩ := List.getElem?_of_mem hcm
    have h1 := c5 i c hi
    have h2 : i < l.length := by
      rcases Nat.lt_or_ge i l.length with q | q
      · exact q
      · rw [List.getElem?_eq_none q] at hi; cases hi
    have h3 := t3 (b + i) (by omega)
    omega
  · show Cut (g2.2.2.1 2) len _ ws
    rw [f22]; exact c7
theorem e_keyword (g : G2) (l : List Int) (h : WordC g l) (ho : WdOk l) : f_Text_keyword_2 g = some (kwOf l, g) ∧ 0 ≤ kwOf l ∧ kwOf l ≤ 126 := by
  obtain ⟨b, h3, h4, h5, h6, h7, h8⟩ := h
  unfold f_Text_keyword_2
  rw [if_pos (by omega)]
  match l, h4, h5, h6, ho with
  | [], h4, _, _, ho => exact absurd rfl ho.1
  | [x], h4, _, _, _ => rw [if_neg (by simp at h4; omega), show kwOf [x] = 0 from rfl]; exact ⟨rfl, by decide, by decide⟩
  | [x, y], h4, h5, h6, ho =>
    simp only [List.length_cons, List.length_nil] at h4 h5
    have e0 : g.2.2.1 2 b = x := by have := h6 0 x rfl; simpa using this
    have e1 : g.2.2.1 2 (b + 1) = y := h6 1 y rfl
    have o1 := ho.2 x (by simp)
    have o2 := ho.2 y (by simp)
    have q0 : rA g 2 (rI g 1 3) = x := by rw [h3]; exact e0
    have q1 : rA g 2 ((rI g 1 3) + 1) = y := by rw [h3]; exact e1
    rw [if_pos (by omega), if_pos (by omega), q0, if_pos (by omega), q1]
    rw [show kwOf [x, y] = if x = 36 then y else 0 from rfl]
    by_cases hx : x = 36
    · rw [if_pos hx, if_pos (by omega), if_pos hx]; exact ⟨rfl, by omega, by omega⟩
    · rw [if_neg hx, if_neg hx]; exact ⟨rfl, by decide, by decide⟩
  | x :: y :: z :: l, h4, _, _, _ => rw [if_neg (by simp at h4; omega), show kwOf (x :: y :: z :: l) = 0 from rfl]; exact ⟨rfl, by decide, by decide⟩
