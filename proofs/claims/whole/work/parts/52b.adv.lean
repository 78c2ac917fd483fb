/-! going to the next word that is in no comment -/
def AtC (g : G2) (len : Nat) (ws : List (List Int)) (j : Nat) (b : Bool) : Prop := TXT g len ∧ rI g 1 2 = j ∧ rI g 1 7 = b01 b ∧ ∃ e : Nat, rI g 1 4 = e ∧ Cut (g.2.2.1 2) len e ws
theorem kw40 (l : List Int) : kwOf l = 40 ↔ l = [36, 40] := by
  unfold kwOf
  match l with
  | [] => simp
  | [x] => simp
  | [x, y] =>
    by_cases h : x = 36
    · simp [h]
    · simp [h]
  | x :: y :: z :: l => simp
theorem kw41 (l : List Int) : kwOf l = 41 ↔ l = [36, 41] := by
  unfold kwOf
  match l with
  | [] => simp
  | [x] => simp
  | [x, y] =>
    by_cases h : x = 36
    · simp [h]
    · simp [h]
  | x :: y :: z :: l => simp
theorem e_adv (len : Nat) : ∀ (ws : List (List Int)) (m i j : Nat) (b : Bool) (g : G2), AtC g len ws j b → i + ws.length < 1600 → ws.length < m →
    ((toks j b ws).1 = [] → ∃ g', l_Text_advance_2 m 0 (i : Int) g = some (0, g') ∧ KK c1 g g' ∧ rI g' 1 7 = b01 (toks j b ws).2 ∧ rI g' 1 2 = ((j + ws.length : Nat) : Int)) ∧
    (∀ j' l ts, (toks j b ws).1 = (j', l) :: ts → ∃ (g' : G2) (ws' : List (List Int)), l_Text_advance_2 m 0 (i : Int) g = some (1, g') ∧ KK c1 g g' ∧ WordC g' l ∧ WdOk l ∧ AtC g' len ws' (j' + 1) false ∧ toks (j' + 1) false ws' = (ts, (toks j b ws).2) ∧ j' + 1 + ws'.length = j + ws.length) := by
  intro ws
  induction ws with
  | nil =>
    intro m i j b g hA hi hm
    obtain ⟨m, rfl⟩ : ∃ m', m = m' + 1 := ⟨m - 1, by omega⟩
    obtain ⟨ht, hj, h7, e, he, hc⟩ := hA
    obtain ⟨g', a1, a2, a3, a4, a5⟩ := e_scan_no len e g ht he hc
    refine ⟨fun _ => ⟨g', ?_, a2, by rw [a5, h7]; rfl, by rw [a4, hj]; rfl⟩, fun j' l ts h => ?_⟩
    · rw [s_Text_advance_2_0]
      unfold b_Text_advance_2_0
      simp only [List.length_nil] at hi
      rw [if_pos (by omega), if_pos (by omega), bd_some a1, if_pos (by decide), if_pos rfl]
    · unfold toks at h; cases h
  | cons w ws ih =>
    intro m i j b g hA hi hm
    obtain ⟨m, rfl⟩ : ∃ m', m = m' + 1 := ⟨m - 1, by omega⟩
    obtain ⟨ht, hj, h7, e, he, hc⟩ := hA
    obtain ⟨g3, e', a1, a2, a3, a4, a5, a6, a7, a8, a9⟩ := e_scan_yes len e w ws g ht he hc
    obtain ⟨k1, k2, k3⟩ := e_keyword g3 w a6 a7
    simp only [List.length_cons] at hi hm ⊢
    have ht3 : TXT g3 len := ⟨ht.1, a3.trans ht.2.1, fun i hi => by rw [(a2 2 (by decide)).2.2.1]; exact ht.2.2 i hi⟩
    have hop : l_Text_advance_2 (m + 1) 0 (i : Int) g = (if (rI g3 1 7) = 0 then (if kwOf w = 40 then l_Text_advance_2 m 0 ((i : Int) + 1) (gI g3 1 7 1) else some (1, g3)) else (if kwOf w = 41 then l_Text_advance_2 m 0 ((i : Int) + 1) (gI g3 1 7 0) else l_Text_advance_2 m 0 ((i : Int) + 1) (gI g3 1 7 1))) := by
      rw [s_Text_advance_2_0]
      unfold b_Text_advance_2_0
      rw [if_pos (by omega), if_pos (by omega), bd_some a1, if_pos (by decide), if_neg (by decide), bd_some k1]
      have i7 : ir (rI g3 1 7) := by rw [a5, h7]; cases b <;> decide
      rw [if_pos i7, if_pos (show ir (kwOf w) by omega), if_pos (show ir (kwOf w) by omega)]
    have nx : ∀ b' : Bool, AtC (gI g3 1 7 (b01 b')) len ws (j + 1) b' := fun b' => ⟨ht3, by show rI g3 1 2 = _; rw [a4, hj]; omega, rfl, e', a8, a9⟩
    have fin : ∀ b' : Bool, l_Text_advance_2 (m + 1) 0 (i : Int) g = l_Text_advance_2 m 0 ((i : Int) + 1) (gI g3 1 7 (b01 b')) → toks j b (w :: ws) = toks (j + 1) b' ws → ((toks j b (w :: ws)).1 = [] → ∃ g', l_Text_advance_2 (m + 1) 0 (i : Int) g = some (0, g') ∧ KK c1 g g' ∧ rI g' 1 7 = b01 (toks j b (w :: ws)).2 ∧ rI g' 1 2 = ((j + (ws.length + 1) : Nat) : Int)) ∧ (∀ j' l ts, (toks j b (w :: ws)).1 = (j', l) :: ts → ∃ (g' : G2) (ws' : List (List Int)), l_Text_advance_2 (m + 1) 0 (i : Int) g = some (1, g') ∧ KK c1 g g' ∧ WordC g' l ∧ WdOk l ∧ AtC g' len ws' (j' + 1) false ∧ toks (j' + 1) false ws' = (ts, (toks j b (w :: ws)).2) ∧ j' + 1 + ws'.length = j + (ws.length + 1)) := by
      intro b' h1 h2
      obtain ⟨p1, p2⟩ := ih m (i + 1) (j + 1) b' (gI g3 1 7 (b01 b')) (nx b') (by omega) (by omega)
      rw [h2, h1]
      refine ⟨fun h => ?_, fun j' l ts h => ?_⟩
      · obtain ⟨g', x1, x2, x3, x4⟩ := p1 h
        exact ⟨g', x1, a2.tr ((KK.i (by decide) KK.rf).tr x2), x3, by rw [x4]; omega⟩
      · obtain ⟨g', ws', x1, x2, x3, x4, x5, x6, x7⟩ := p2 j' l ts h
        exact ⟨g', ws', x1, a2.tr ((KK.i (by decide) KK.rf).tr x2), x3, x4, x5, x6, by omega⟩
    cases b with
    | true =>
      have e7 : ¬ rI g3 1 7 = 0 := by rw [a5, h7]; decide
      by_cases h41 : kwOf w = 41
      · refine fin false ?_ ?_
        · rw [hop, if_neg e7, if_pos h41]; rfl
        · have := (kw41 w).mp h41
          subst this
          rfl
      · refine fin true ?_ ?_
        · rw [hop, if_neg e7, if_neg h41]; rfl
        · have : w ≠ [36, 41] := fun q => h41 ((kw41 w).mpr q)
          simp [toks, this]
    | false =>
      have e7 : rI g3 1 7 = 0 := by rw [a5, h7]; rfl
      by_cases h40 : kwOf w = 40
      · refine fin true ?_ ?_
        · rw [hop, if_pos e7, if_pos h40]; rfl
        · have := (kw40 w).mp h40
          subst this
          rfl
      · have hw : w ≠ [36, 40] := fun q => h40 ((kw40 w).mpr q)
        have ht : toks j false (w :: ws) = ((j, w) :: (toks (j + 1) false ws).1, (toks (j + 1) false ws).2) := by simp [toks, hw]
        refine ⟨fun h => ?_, fun j' l ts h => ?_⟩
        · rw [ht] at h; cases h
        · rw [ht] at h
          injection h with h1 h2
          injection h1 with h3 h4
          subst h3; subst h4; subst h2
          refine ⟨g3, ws, by rw [hop, if_pos e7, if_neg h40], a2, a6, a7, ⟨ht3, by rw [a4, hj]; omega, by rw [a5, h7], e', a8, a9⟩, ?_, by omega⟩
          rw [ht]
