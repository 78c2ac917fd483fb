/-! feed and clear, both sides -/
def RT (g : G2) (len : Nat) : Prop := len ≤ 1600 ∧ rI g 1 1 = len ∧ rI g 49 1 = len ∧ ∀ i : Nat, i < len → g.2.2.1 2 i = g.2.2.1 50 i ∧ 32 ≤ g.2.2.1 2 i ∧ g.2.2.1 2 i ≤ 126
/-- only the text's cells differ -/
def SB (g g' : G2) : Prop := (∀ r k : Nat, ¬ (r = 1 ∧ k = 1) → ¬ (r = 49 ∧ k = 1) → g'.1 r k = g.1 r k) ∧ g'.2.1 = g.2.1 ∧ (∀ r : Nat, r ≠ 2 → r ≠ 50 → g'.2.2.1 r = g.2.2.1 r) ∧ g'.2.2.2 = g.2.2.2
theorem SB.rfl' (g : G2) : SB g g := ⟨fun _ _ _ _ => rfl, rfl, fun _ _ _ => rfl, rfl⟩
theorem SB.trans {a b c : G2} (h : SB a b) (k : SB b c) : SB a c := ⟨fun r q h1 h2 => (k.1 r q h1 h2).trans (h.1 r q h1 h2), k.2.1.trans h.2.1, fun r h1 h2 => (k.2.2.1 r h1 h2).trans (h.2.2.1 r h1 h2), k.2.2.2.trans h.2.2.2⟩
def chkN (c : Int64) : Nat → Nat → Bool
  | 0, _ => true
  | k + 1, i => if byt c i < 32 ∨ 126 < byt c i then false else chkN c k (i + 1)
theorem chkN_bad {c : Int64} {k i : Nat} (h : byt c i < 32 ∨ 126 < byt c i) : chkN c (k + 1) i = false := by
  show (if byt c i < 32 ∨ 126 < byt c i then false else chkN c k (i + 1)) = false
  rw [if_pos h]
theorem chkN_good {c : Int64} {k i : Nat} (h : ¬ (byt c i < 32 ∨ 126 < byt c i)) : chkN c (k + 1) i = chkN c k (i + 1) := by
  show (if byt c i < 32 ∨ 126 < byt c i then false else chkN c k (i + 1)) = _
  rw [if_neg h]
theorem chkN_ok (c : Int64) : ∀ k i, chkN c k i = true → ∀ j, i ≤ j → j < i + k → 32 ≤ byt c j ∧ byt c j ≤ 126 := by
  intro k
  induction k with
  | zero => intro i _ j h1 h2; omega
  | succ k ih =>
    intro i h j h1 h2
    unfold chkN at h
    split at h
    · cases h
    · next hb =>
      by_cases e : j = i
      · subst e; omega
      · exact ih (i + 1) h j (by omega) (by omega)
theorem e_app0 (g : G2) (c : Int64) (n : Nat) (hn : n ≤ 8) : ∀ k m i : Nat, i + k = n → k < m → l_Text_append_2 m 0 c n (i : Int) g = if chkN c k i = true then l_Text_append_2 (m - k - 1) 1 c n 0 g else some (-1, g) := by
  intro k
  induction k with
  | zero =>
    intro m i hi hm
    obtain ⟨m, rfl⟩ : ∃ m', m = m' + 1 := ⟨m - 1, by omega⟩
    rw [s_Text_append_2_0]
    unfold b_Text_append_2_0
    rw [if_pos (show ir (i : Int) by omega), if_pos (show ir (n : Int) by omega), if_neg (show ¬ (i : Int) < n by omega), if_pos (show chkN c 0 i = true from rfl), show m + 1 - 0 - 1 = m by omega]
  | succ k ih =>
    intro m i hi hm
    obtain ⟨m, rfl⟩ : ∃ m', m = m' + 1 := ⟨m - 1, by omega⟩
    have h := ih m (i + 1) (by omega) (by omega)
    rw [s_Text_append_2_0]
    unfold b_Text_append_2_0
    rw [if_pos (show ir (i : Int) by omega), if_pos (show ir (n : Int) by omega), if_pos (show (i : Int) < n by omega), byt_class c (show i < 8 by omega)]
    by_cases h1 : byt c i < 32
    · rw [if_pos (by omega), chkN_bad (Or.inl h1), if_neg Bool.false_ne_true]
    · rw [if_neg (by omega)]
      by_cases h2 : 126 < byt c i
      · rw [if_pos (by omega), chkN_bad (Or.inr h2), if_neg Bool.false_ne_true]
      · rw [if_neg (by omega), chkN_good (by omega)]
        have e : m + 1 - (k + 1) - 1 = m - k - 1 := by omega
        rw [e]
        exact h
theorem e_feed0 (g : G2) (c : Int64) (n : Nat) (hn : n ≤ 8) : ∀ k m i : Nat, i + k = n → k < m → l_M_feed_50 m 0 c n (i : Int) g = if chkN c k i = true then l_M_feed_50 (m - k - 1) 1 c 0 ((n : Int) - 1) g else some (-1, g) := by
  intro k
  induction k with
  | zero =>
    intro m i hi hm
    obtain ⟨m, rfl⟩ : ∃ m', m = m' + 1 := ⟨m - 1, by omega⟩
    rw [s_M_feed_50_0]
    unfold b_M_feed_50_0
    rw [if_pos (show ir (i : Int) by omega), if_pos (show ir (n : Int) by omega), if_neg (show ¬ (i : Int) < n by omega), if_pos (show chkN c 0 i = true from rfl), show m + 1 - 0 - 1 = m by omega]
  | succ k ih =>
    intro m i hi hm
    obtain ⟨m, rfl⟩ : ∃ m', m = m' + 1 := ⟨m - 1, by omega⟩
    have h := ih m (i + 1) (by omega) (by omega)
    rw [s_M_feed_50_0]
    unfold b_M_feed_50_0
    rw [if_pos (show ir (i : Int) by omega), if_pos (show ir (n : Int) by omega), if_pos (show (i : Int) < n by omega), byt_model c (show i < 8 by omega)]
    by_cases h1 : byt c i < 32
    · rw [if_pos (by omega), chkN_bad (Or.inl h1), if_neg Bool.false_ne_true]
    · rw [if_neg (by omega)]
      by_cases h2 : 126 < byt c i
      · rw [if_pos (by omega), chkN_bad (Or.inr h2), if_neg Bool.false_ne_true]
      · rw [if_neg (by omega), chkN_good (by omega)]
        have e : m + 1 - (k + 1) - 1 = m - k - 1 := by omega
        rw [e]
        exact h
/-- the writes, class: k bytes from place len + i on -/
theorem e_app1 (c : Int64) (n len : Nat) (hn : n ≤ 8) (hl : len + n ≤ 1600) (hc : ∀ j, j < n → 32 ≤ byt c j ∧ byt c j ≤ 126) : ∀ k m i : Nat, ∀ g : G2, rI g 1 1 = len → i + k = n → k < m → ∃ g', l_Text_append_2 m 1 c n (i : Int) g = some (((len + n : Nat) : Int), g') ∧ g'.1 = am_upd g.1 1 (am_upd (g.1 1) 1 ((len + n : Nat) : Int)) ∧ g'.2.1 = g.2.1 ∧ g'.2.2.2 = g.2.2.2 ∧ (∀ r, r ≠ 2 → g'.2.2.1 r = g.2.2.1 r) ∧ ∀ j : Nat, g'.2.2.1 2 j = if len + i ≤ j ∧ j < len + n then (byt c (n - 1 - (j - len)) : Int) else g.2.2.1 2 j := by
  intro k
  induction k with
  | zero =>
    intro m i g hg hi hm
    obtain ⟨m, rfl⟩ : ∃ m', m = m' + 1 := ⟨m - 1, by omega⟩
    refine ⟨gI g 1 1 ((len + n : Nat) : Int), ?_, rfl, rfl, rfl, fun _ _ => rfl, fun j => ?_⟩
    · rw [s_Text_append_2_1]
      unfold b_Text_append_2_1
      rw [if_pos (show ir (i : Int) by omega), if_pos (show ir (n : Int) by omega), if_neg (show ¬ (i : Int) < n by omega), hg]
      have e : (len : Int) + n = ((len + n : Nat) : Int) := by omega
      rw [e]
    · rw [if_neg (by omega)]; rfl
  | succ k ih =>
    intro m i g hg hi hm
    obtain ⟨m, rfl⟩ : ∃ m', m = m' + 1 := ⟨m - 1, by omega⟩
    obtain ⟨g', h1, h2, h3, h4, h5, h6⟩ := ih m (i + 1) (gA g 2 ((len : Int) + i) (byt c (n - 1 - i))) hg (by omega) (by omega)
    refine ⟨g', ?_, h2, h3, h4, fun r hr => ?_, fun j => ?_⟩
    · rw [s_Text_append_2_1]
      unfold b_Text_append_2_1
      have e1 : ((n : Int) - 1) - i = ((n - 1 - i : Nat) : Int) := by omega
      have hb := hc (n - 1 - i) (by omega)
      rw [if_pos (show ir (i : Int) by omega), if_pos (show ir (n : Int) by omega), if_pos (show (i : Int) < n by omega), hg, if_pos (show 0 ≤ (len : Int) + i ∧ (len : Int) + i < 1600 by omega), e1, byt_b c (show n - 1 - i < 8 by omega) hb.2, if_pos (by omega)]
      exact h1
    · rw [h5 r hr]
      show am_upd g.2.2.1 2 _ r = _
      unfold am_upd
      rw [if_neg hr]
    · rw [h6 j]
      have e2 : ((len : Int) + i).toNat = len + i := by omega
      have e3 : (gA g 2 ((len : Int) + i) (byt c (n - 1 - i))).2.2.1 2 j = if j = len + i then (byt c (n - 1 - i) : Int) else g.2.2.1 2 j := by
        show am_upd g.2.2.1 2 (am_upd (g.2.2.1 2) ((len : Int) + i).toNat _) 2 j = _
        rw [e2]
        unfold am_upd
        rw [if_pos rfl]
      rw [e3]
      by_cases hj : j = len + i
      · subst hj
        rw [if_neg (by omega), if_pos rfl, if_pos (by omega)]
        have e4 : n - 1 - (len + i - len) = n - 1 - i := by omega
        rw [e4]
      · rw [if_neg hj]
        by_cases hr : len + (i + 1) ≤ j ∧ j < len + n
        · rw [if_pos hr, if_pos (by omega)]
        · rw [if_neg hr, if_neg (by omega)]
/-- the writes, model: bytes k - 1 down to 0 -/
theorem e_feed1 (c : Int64) (n len : Nat) (hn : n ≤ 8) (hl : len + n ≤ 1600) : ∀ k m : Nat, ∀ g : G2, k ≤ n → rI g 49 1 = ((len + (n - k) : Nat) : Int) → k < m → ∃ g', l_M_feed_50 m 1 c 0 ((k : Int) - 1) g = some (((len + n : Nat) : Int), g') ∧ (∀ r q : Nat, ¬ (r = 49 ∧ q = 1) → g'.1 r q = g.1 r q) ∧ g'.1 49 1 = ((len + n : Nat) : Int) ∧ g'.2.1 = g.2.1 ∧ g'.2.2.2 = g.2.2.2 ∧ (∀ r, r ≠ 50 → g'.2.2.1 r = g.2.2.1 r) ∧ ∀ j : Nat, g'.2.2.1 50 j = if len + (n - k) ≤ j ∧ j < len + n then (byt c (n - 1 - (j - len)) : Int) else g.2.2.1 50 j := by
  intro k
  induction k with
  | zero =>
    intro m g hk hg hm
    obtain ⟨m, rfl⟩ : ∃ m', m = m' + 1 := ⟨m - 1, by omega⟩
    have hg2 : rI g 49 1 = ((len + n : Nat) : Int) := by rw [hg]; congr 1
    refine ⟨g, ?_, fun _ _ _ => rfl, hg2, rfl, rfl, fun _ _ => rfl, fun j => ?_⟩
    · rw [s_M_feed_50_1]
      unfold b_M_feed_50_1
      rw [if_pos (by decide), if_pos (by decide), hg2]
    · rw [if_neg (by omega)]
  | succ k ih =>
    intro m g hk hg hm
    obtain ⟨m, rfl⟩ : ∃ m', m = m' + 1 := ⟨m - 1, by omega⟩
    have e0 : len + (n - (k + 1)) + 1 = len + (n - k) := by omega
    obtain ⟨g', h1, h2, h2b, h3, h4, h5, h6⟩ := ih m (gI (gA g 50 ((len + (n - (k + 1)) : Nat) : Int) (byt c k)) 49 1 ((len + (n - k) : Nat) : Int)) (by omega) rfl (by omega)
    refine ⟨g', ?_, fun r q hr => ?_, h2b, h3, h4, fun r hr => ?_, fun j => ?_⟩
    · rw [s_M_feed_50_1]
      unfold b_M_feed_50_1
      have e1 : ((k + 1 : Nat) : Int) - 1 = (k : Int) := by omega
      have e2 : ((len + (n - (k + 1)) : Nat) : Int) + 1 = ((len + (n - k) : Nat) : Int) := by omega
      have e3 : (k : Int) + -1 = (k : Int) - 1 := by omega
      rw [e1, if_pos (show ir (k : Int) by omega), if_neg (show ¬ (k : Int) < 0 by omega), hg, if_pos (show 0 ≤ ((len + (n - (k + 1)) : Nat) : Int) ∧ ((len + (n - (k + 1)) : Nat) : Int) < 1600 by omega), byt_model c (show k < 8 by omega), e2, e3]
      exact h1
    · rw [h2 r q hr]
      show am_upd g.1 49 (am_upd (g.1 49) 1 _) r q = _
      unfold am_upd
      by_cases h49 : r = 49
      · subst h49
        rw [if_pos rfl, if_neg (fun e => hr ⟨rfl, e⟩)]
      · rw [if_neg h49]
    · rw [h5 r hr]
      show am_upd g.2.2.1 50 _ r = _
      unfold am_upd
      rw [if_neg hr]
    · rw [h6 j]
      have e3 : (gI (gA g 50 ((len + (n - (k + 1)) : Nat) : Int) (byt c k)) 49 1 ((len + (n - k) : Nat) : Int)).2.2.1 50 j = if j = len + (n - (k + 1)) then (byt c k : Int) else g.2.2.1 50 j := by
        show am_upd g.2.2.1 50 (am_upd (g.2.2.1 50) ((len + (n - (k + 1)) : Nat) : Int).toNat _) 50 j = _
        rw [Int.toNat_natCast]
        unfold am_upd
        rw [if_pos rfl]
      rw [e3]
      by_cases hj : j = len + (n - (k + 1))
      · rw [if_neg (by omega), if_pos hj, if_pos (by omega)]
        have e4 : n - 1 - (j - len) = k := by omega
        rw [e4]
      · rw [if_neg hj]
        by_cases hr : len + (n - k) ≤ j ∧ j < len + n
        · rw [if_pos hr, if_pos (by omega)]
        · rw [if_neg hr, if_neg (by omega)]
