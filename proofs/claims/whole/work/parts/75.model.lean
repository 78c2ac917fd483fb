/-! ===== the model: the next word ===== -/
/-- what a word is, for the model -/
def whOf (l : List Int) : Int := if 36 ∈ l then (if kwOf l = 46 then 9 else if kwOf l = 61 then 8 else if kwOf l = 97 then 6 else if kwOf l = 99 then 1 else if kwOf l = 100 then 3 else if kwOf l = 101 then 5 else if kwOf l = 102 then 4 else if kwOf l = 112 then 7 else if kwOf l = 118 then 2 else if kwOf l = 123 then 10 else if kwOf l = 125 then 11 else 12) else 0
theorem m_whatL {g : G2} {ws : List (List Int)} (h : WM g ws) {j : Nat} {l : List Int} (hj : ws[j]? = some l) : ∀ (k m i d : Nat), i + k = l.length → k + 2 < m → d ≤ i → (d = 0 ↔ ¬ (36 : Int) ∈ l.take i) → l_M_whatIs_50 m 0 (j : Int) (d : Int) (i : Int) g = some (whOf l, g) := by
  have h' := h
  obtain ⟨h1, h2, h3⟩ := h
  obtain ⟨hok, b, b1, b2, b3, b4⟩ := h3 j l hj
  have hjl := lt_get hj
  have e52 : rA g 52 ((j : Nat) : Int) = (l.length : Int) := b2
  intro k
  induction k with
  | zero =>
    intro m i d hi hm hd hiff
    obtain ⟨m, rfl⟩ : ∃ m', m = m' + 2 := ⟨m - 2, by omega⟩
    rw [List.take_of_length_le (by omega)] at hiff
    rw [show m + 2 = (m + 1) + 1 by omega, s_M_whatIs_50_0]
    unfold b_M_whatIs_50_0 whOf
    rw [if_pos (by omega), if_pos (by omega), e52, if_pos (by omega), if_neg (by omega), if_pos (by omega)]
    have odd : l_M_whatIs_50 (m + 1) 1 0 0 0 g = some (12, g) := by rw [s_M_whatIs_50_1]; rfl
    by_cases q0 : d = 0
    · rw [if_pos (by omega), if_neg (hiff.mp q0)]
    · have hmem : (36 : Int) ∈ l := Classical.byContradiction (fun z => q0 (hiff.mpr z))
      rw [if_neg (by omega), if_pos hmem]
      by_cases q2 : l.length = 2
      · rw [if_pos (by omega)]
        match l, q2, hj, hok with
        | [x, y], _, hj, hok =>
          have o1 := hok.2 x (by simp)
          have o2 := hok.2 y (by simp)
          have l0 : f_M_letter_50 (j : Int) 0 g = some (x, g) := m_letter h' hj (i := 0) rfl
          have l1 : f_M_letter_50 (j : Int) 1 g = some (y, g) := m_letter h' hj (i := 1) rfl
          rw [bd_some l0, if_pos (by omega), show kwOf [x, y] = if x = 36 then y else 0 from rfl]
          by_cases q1 : x = 36
          · rw [if_pos q1, bd_some l1, if_pos (by omega), if_pos q1]
            repeat' split
            all_goals rfl
          · rw [if_neg q1, if_neg q1, odd]
            simp
      · rw [if_neg (by omega), odd]
        have e : kwOf l = 0 := by
          match l, q2 with
          | [], _ => rfl
          | [x], _ => rfl
          | x :: y :: z :: l, _ => rfl
        rw [e]
        simp
  | succ k ih =>
    intro m i d hi hm hd hiff
    obtain ⟨m, rfl⟩ : ∃ m', m = m' + 1 := ⟨m - 1, by omega⟩
    obtain ⟨c, hc⟩ := ex_get (l := l) (k := i) (by omega)
    have o1 := hok.2 c (List.mem_of_getElem? hc)
    rw [s_M_whatIs_50_0]
    unfold b_M_whatIs_50_0
    rw [if_pos (by omega), if_pos (by omega), e52, if_pos (by omega), if_pos (by omega), bd_some (m_letter h' hj hc), if_pos (by omega)]
    have htk := take_succ' hc
    by_cases q : c = 36
    · rw [if_pos q]
      exact ih m (i + 1) (d + 1) (by omega) (by omega) (by omega) (by rw [htk, q]; simp)
    · rw [if_neg q]
      refine ih m (i + 1) d (by omega) (by omega) (by omega) ?_
      rw [htk, List.mem_append, List.mem_singleton, hiff]
      constructor
      · intro z w
        rcases w with w | w
        · exact z w
        · exact q w.symm
      · intro z w; exact z (Or.inl w)
theorem m_what {g : G2} {ws : List (List Int)} (h : WM g ws) {j : Nat} {l : List Int} (hj : ws[j]? = some l) : f_M_whatIs_50 (j : Int) g = some (whOf l, g) := by
  have hl : l.length ≤ 1600 := by
    obtain ⟨_, b, _, _, b3, _⟩ := h.2.2 j l hj
    omega
  exact m_whatL h hj l.length 20000 0 0 (by omega) (by omega) (by omega) (by simp)
/-- the model's place among the words: what is left of them -/
def At (g : G2) (ws : List (List Int)) (ts : List (Nat × List Int)) (b : Bool) : Prop := ∃ w : Nat, rI g 49 5 = (w : Int) ∧ w ≤ ws.length ∧ toks w false (ws.drop w) = (ts, b)
/-- only the model's place, fault and where differ -/
def SF (g g' : G2) : Prop := g'.2 = g.2 ∧ (∀ r, r ≠ 49 → g'.1 r = g.1 r) ∧ ∀ k, k ≠ 5 → k ≠ 6 → k ≠ 7 → g'.1 49 k = g.1 49 k
theorem SF.rf {g : G2} : SF g g := ⟨rfl, fun _ _ => rfl, fun _ _ _ _ => rfl⟩
theorem SF.tr {a b c : G2} (h : SF a b) (k : SF b c) : SF a c := ⟨k.1.trans h.1, fun r hr => (k.2.1 r hr).trans (h.2.1 r hr), fun q h5 h6 h7 => (k.2.2 q h5 h6 h7).trans (h.2.2 q h5 h6 h7)⟩
theorem SF.i {g : G2} {k : Nat} {v : Int} (h : k = 5 ∨ k = 6 ∨ k = 7) : SF g (gI g 49 k v) := by
  refine ⟨rfl, fun r hr => am_updN hr, fun q h5 h6 h7 => ?_⟩
  show am_upd g.1 49 (am_upd (g.1 49) k v) 49 q = _
  rw [updN_at, am_updN (by omega)]
theorem WM.sf {g g' : G2} {ws : List (List Int)} (h : WM g ws) (k : SF g g') : WM g' ws := by
  obtain ⟨h1, h2, h3⟩ := h
  refine ⟨(k.2.2 4 (by decide) (by decide) (by decide)).trans h1, h2, ?_⟩
  rw [k.1]; exact h3
theorem m_fail0 {g : G2} (h : rI g 49 6 = 0) (f p : Int) : f_M_fail_50 f p g = some (gI (gI g 49 6 f) 49 7 p) := by
  unfold f_M_fail_50
  rw [if_pos (by omega), if_pos h]
theorem m_fail1 {g : G2} (h : rI g 49 6 ≠ 0) (hr : ir (rI g 49 6)) (f p : Int) : f_M_fail_50 f p g = some g := by
  unfold f_M_fail_50
  rw [if_pos hr, if_neg h]
/-- come: no word is left, or there is one -/
def ComeR (g : G2) (ws : List (List Int)) (ts : List (Nat × List Int)) (b : Bool) (o : Option (Int × G2)) : Prop :=
  match ts with
  | [] => ∃ g', o = some (0, g') ∧ SF g g' ∧ (if b = true then rI g' 49 6 = -2 ∧ rI g' 49 7 = (ws.length : Int) else rI g' 49 6 = 0 ∧ rI g' 49 7 = rI g 49 7)
  | (j, l) :: ts' => ws[j]? = some l ∧ WdOk l ∧ (if 8 < l.length then ∃ g', o = some (0, g') ∧ SF g g' ∧ rI g' 49 6 = -3 ∧ rI g' 49 7 = (j : Int) else ∃ g', o = some (1, g') ∧ SF g g' ∧ rI g' 49 6 = 0 ∧ rI g' 49 7 = rI g 49 7 ∧ rI g' 49 5 = (j : Int) ∧ toks (j + 1) false (ws.drop (j + 1)) = (ts', b))
theorem drop_get {α : Type} {l : List α} {w : Nat} {x : α} (h : l[w]? = some x) : l.drop w = x :: l.drop (w + 1) := drop_eq h
theorem m_comeL (ws : List (List Int)) : ∀ (d m w : Nat) (g : G2) (ts : List (Nat × List Int)) (b : Bool), w + d = ws.length → WM g ws → rI g 49 5 = (w : Int) → rI g 49 6 = 0 →
    (3 * d + 4 < m → toks w false (ws.drop w) = (ts, b) → ComeR g ws ts b (l_M_come_50 m 0 g)) ∧ (3 * d + 5 < m → toks w true (ws.drop w) = (ts, b) → ComeR g ws ts b (l_M_come_50 m 1 g)) := by
  intro d
  induction d using Nat.strongRecOn with
  | ind d ih =>
    intro m w g ts b hwd hM h5 h6
    have h4 := hM.1
    have h801 := hM.2.1
    refine ⟨fun hm ht => ?_, fun hm ht => ?_⟩
    · obtain ⟨m, rfl⟩ : ∃ m', m = m' + 4 := ⟨m - 4, by omega⟩
      rw [show m + 4 = (m + 3) + 1 by omega, s_M_come_50_0]
      unfold b_M_come_50_0
      rw [if_pos (by omega), if_pos (by omega)]
      by_cases q : w < ws.length
      · obtain ⟨l, hl⟩ := ex_get q
        rw [drop_get hl] at ht
        obtain ⟨hok, bb, b1, b2, b3, b4⟩ := hM.2.2 w l hl
        rw [if_pos (by omega), h5, bd_some (m_isTwo hM hl 40 (by decide)), if_pos (b01_ir _)]
        by_cases q40 : l = [36, 40]
        · have e : toks w false (l :: ws.drop (w + 1)) = toks (w + 1) true (ws.drop (w + 1)) := by simp [toks, q40]
          rw [e] at ht
          rw [decide_eq_true q40, if_neg (by decide)]
          -- the model stands at the opening word itself, which does not close
          have h2 : l_M_come_50 (m + 3) 1 g = l_M_come_50 (m + 2) 1 (gI g 49 5 ((rI g 49 5) + 1)) := by
            rw [show m + 3 = (m + 2) + 1 by omega, s_M_come_50_1]
            unfold b_M_come_50_1
            rw [if_pos (by omega), if_pos (by omega), if_pos (by omega), h5, bd_some (m_isTwo hM hl 41 (by decide)), if_pos (b01_ir _), decide_eq_false (by rw [q40]; decide), if_pos (by decide), h5]
          rw [h2]
          have := (ih (d - 1) (by omega) (m + 2) (w + 1) (gI g 49 5 ((rI g 49 5) + 1)) ts b (by omega) (hM.sf (SF.i (Or.inl rfl))) (by show rI g 49 5 + 1 = _; omega) h6).2 (by omega) ht
          revert this
          unfold ComeR
          cases ts with
          | nil =>
            rintro ⟨g', x1, x2, x3⟩
            refine ⟨g', x1, (SF.i (Or.inl rfl)).tr x2, ?_⟩
            exact x3
          | cons t ts' =>
            rintro ⟨x1, x2, x3⟩
            refine ⟨x1, x2, ?_⟩
            by_cases z : 8 < t.2.length
            · have x3' : ∃ g', l_M_come_50 (m + 2) 1 (gI g 49 5 ((rI g 49 5) + 1)) = some (0, g') ∧ SF (gI g 49 5 ((rI g 49 5) + 1)) g' ∧ rI g' 49 6 = -3 ∧ rI g' 49 7 = (t.1 : Int) := by
                have := x3
                rw [if_pos z] at this; exact this
              obtain ⟨g', y1, y2, y3⟩ := x3'
              show (if 8 < t.2.length then _ else _)
              rw [if_pos z]
              exact ⟨g', y1, (SF.i (Or.inl rfl)).tr y2, y3⟩
            · have x3' : ∃ g', l_M_come_50 (m + 2) 1 (gI g 49 5 ((rI g 49 5) + 1)) = some (1, g') ∧ SF (gI g 49 5 ((rI g 49 5) + 1)) g' ∧ rI g' 49 6 = 0 ∧ rI g' 49 7 = rI (gI g 49 5 ((rI g 49 5) + 1)) 49 7 ∧ rI g' 49 5 = (t.1 : Int) ∧ toks (t.1 + 1) false (ws.drop (t.1 + 1)) = (ts', b) := by
                have := x3
                rw [if_neg z] at this; exact this
              obtain ⟨g', y1, y2, y3⟩ := x3'
              show (if 8 < t.2.length then _ else _)
              rw [if_neg z]
              exact ⟨g', y1, (SF.i (Or.inl rfl)).tr y2, y3⟩
        · have e : toks w false (l :: ws.drop (w + 1)) = ((w, l) :: (toks (w + 1) false (ws.drop (w + 1))).1, (toks (w + 1) false (ws.drop (w + 1))).2) := by simp [toks, q40]
          rw [e] at ht
          injection ht with t1 t2
          subst t1; subst t2
          rw [decide_eq_false q40, if_pos (by decide), show m + 3 = (m + 2) + 1 by omega, s_M_come_50_3]
          unfold b_M_come_50_3
          have e52 : rA g 52 ((w : Nat) : Int) = (l.length : Int) := b2
          rw [if_pos (by omega), if_pos (by omega), if_pos (by omega), if_pos (by omega), h5, e52, if_pos (by omega)]
          refine ⟨hl, hok, ?_⟩
          by_cases z : 8 < l.length
          · rw [if_pos z, if_pos (by omega), m_fail0 h6]
            exact ⟨_, rfl, (SF.i (Or.inr (Or.inl rfl))).tr (SF.i (Or.inr (Or.inr rfl))), rfl, rfl⟩
          · rw [if_neg z, if_neg (by omega), show m + 2 = (m + 1) + 1 by omega, s_M_come_50_4]
            unfold b_M_come_50_4
            rw [if_pos (by omega), if_pos (by omega), if_pos (by omega)]
            exact ⟨g, rfl, SF.rf, h6, rfl, h5, rfl⟩
      · rw [List.drop_eq_nil_of_le (by omega)] at ht
        injection ht with t1 t2
        subst t1; subst t2
        rw [if_neg (by omega), show m + 3 = (m + 2) + 1 by omega, s_M_come_50_3]
        unfold b_M_come_50_3
        rw [if_pos (by omega), if_pos (by omega), if_neg (by omega), show m + 2 = (m + 1) + 1 by omega, s_M_come_50_4]
        unfold b_M_come_50_4
        rw [if_pos (by omega), if_pos (by omega), if_neg (by omega)]
        exact ⟨g, rfl, SF.rf, by rw [if_neg (by decide)]; exact ⟨h6, rfl⟩⟩
    · obtain ⟨m, rfl⟩ : ∃ m', m = m' + 4 := ⟨m - 4, by omega⟩
      rw [show m + 4 = (m + 3) + 1 by omega, s_M_come_50_1]
      unfold b_M_come_50_1
      rw [if_pos (by omega), if_pos (by omega)]
      by_cases q : w < ws.length
      · obtain ⟨l, hl⟩ := ex_get q
        rw [drop_get hl] at ht
        rw [if_pos (by omega), h5, bd_some (m_isTwo hM hl 41 (by decide)), if_pos (b01_ir _)]
        have hstep : ∀ (o : Option (Int × G2)) (b' : Bool), toks w true (l :: ws.drop (w + 1)) = toks (w + 1) b' (ws.drop (w + 1)) → (∃ g1, SF g g1 ∧ rI g1 49 7 = rI g 49 7 ∧ ComeR g1 ws ts b o) → ComeR g ws ts b o := by
          rintro o b' _ ⟨g1, s1, s7, x⟩
          unfold ComeR at x ⊢
          cases ts with
          | nil =>
            obtain ⟨g', x1, x2, x3⟩ := x
            refine ⟨g', x1, s1.tr x2, ?_⟩
            rw [s7] at x3; exact x3
          | cons t ts' =>
            obtain ⟨x1, x2, x3⟩ := x
            refine ⟨x1, x2, ?_⟩
            show (if 8 < t.2.length then _ else _)
            by_cases z : 8 < t.2.length
            · have x3' := x3
              rw [if_pos z] at x3' ⊢
              obtain ⟨g', y1, y2, y3⟩ := x3'
              exact ⟨g', y1, s1.tr y2, y3⟩
            · have x3' := x3
              rw [if_neg z] at x3' ⊢
              obtain ⟨g', y1, y2, y3, y4, y5⟩ := x3'
              exact ⟨g', y1, s1.tr y2, y3, y4.trans s7, y5⟩
        by_cases q41 : l = [36, 41]
        · have e : toks w true (l :: ws.drop (w + 1)) = toks (w + 1) false (ws.drop (w + 1)) := by simp [toks, q41]
          rw [e] at ht
          rw [decide_eq_true q41, if_neg (by decide)]
          refine hstep _ false e ⟨gI g 49 5 ((rI g 49 5) + 1), SF.i (Or.inl rfl), rfl, ?_⟩
          have := (ih (d - 1) (by omega) (m + 2) (w + 1) (gI g 49 5 ((rI g 49 5) + 1)) ts b (by omega) (hM.sf (SF.i (Or.inl rfl))) (by show rI g 49 5 + 1 = _; omega) h6).1 (by omega) ht
          rw [show m + 3 = (m + 2) + 1 by omega, s_M_come_50_2]
          unfold b_M_come_50_2
          rw [if_pos (by omega), if_pos (by omega), if_neg (by omega)]
          exact this
        · have e : toks w true (l :: ws.drop (w + 1)) = toks (w + 1) true (ws.drop (w + 1)) := by simp [toks, q41]
          rw [e] at ht
          rw [decide_eq_false q41, if_pos (by decide)]
          refine hstep _ true e ⟨gI g 49 5 ((rI g 49 5) + 1), SF.i (Or.inl rfl), rfl, ?_⟩
          have := (ih (d - 1) (by omega) (m + 3) (w + 1) (gI g 49 5 ((rI g 49 5) + 1)) ts b (by omega) (hM.sf (SF.i (Or.inl rfl))) (by show rI g 49 5 + 1 = _; omega) h6).2 (by omega) ht
          exact this
      · rw [List.drop_eq_nil_of_le (by omega)] at ht
        injection ht with t1 t2
        subst t1; subst t2
        rw [if_neg (by omega), show m + 3 = (m + 2) + 1 by omega, s_M_come_50_2]
        unfold b_M_come_50_2
        rw [if_pos (by omega), if_pos (by omega), if_pos (by omega), m_fail0 h6]
        exact ⟨_, rfl, (SF.i (Or.inr (Or.inl rfl))).tr (SF.i (Or.inr (Or.inr rfl))), by rw [if_pos rfl]; exact ⟨rfl, h4⟩⟩
theorem m_come {g : G2} {ws : List (List Int)} {ts : List (Nat × List Int)} {b : Bool} (hM : WM g ws) (hA : At g ws ts b) (h6 : rI g 49 6 = 0) : ComeR g ws ts b (f_M_come_50 g) := by
  obtain ⟨w, w1, w2, w3⟩ := hA
  exact (m_comeL ws (ws.length - w) 20000 w g ts b (by omega) hM w1 h6).1 (by have := hM.2.1; omega) w3
