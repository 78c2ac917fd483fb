/-! ===== the class: the whole reading ===== -/
theorem TXT.kk {g g' : G2} {len : Nat} {P : Nat → Prop} (h : TXT g len) (k : KK P g g') (p1 : P 1) (p2 : P 2) : TXT g' len := by
  obtain ⟨t1, t2, t3⟩ := h
  refine ⟨t1, ?_, fun i hi => ?_⟩
  · rw [show rI g' 1 1 = rI g 1 1 from congrFun (k 1 p1).1 1]; exact t2
  · rw [(k 2 p2).2.2.1]; exact t3 i hi
theorem AtC.kk {g g' : G2} {len j : Nat} {ws : List (List Int)} {b : Bool} {P : Nat → Prop} (h : AtC g len ws j b) (k : KK P g g') (p1 : P 1) (p2 : P 2) : AtC g' len ws j b := by
  obtain ⟨h1, h2, h3, e, h4, h5⟩ := h
  refine ⟨h1.kk k p1 p2, ?_, ?_, e, ?_, ?_⟩
  · rw [show rI g' 1 2 = rI g 1 2 from congrFun (k 1 p1).1 2]; exact h2
  · rw [show rI g' 1 7 = rI g 1 7 from congrFun (k 1 p1).1 7]; exact h3
  · rw [show rI g' 1 4 = rI g 1 4 from congrFun (k 1 p1).1 4]; exact h4
  · rw [(k 2 p2).2.2.1]; exact h5
theorem CRep.c1 {S : RSt} {g g' : G2} (h : CRep S g) (k : KK c1 g g') : CRep S g' := by
  obtain ⟨⟨hN, hS, hA, h38⟩, hX, hR, hC, hP, hL⟩ := h
  exact ⟨⟨hN.kk k (by decide), hS.kk k (by decide), hA.kk k (by decide) (by decide), z38 h38 k (by decide)⟩, hX.kk k (by decide), hR.kk k (by decide), hC.kk k (by decide) (by decide), hP.kk k (by decide), hL.kk k (by decide)⟩
theorem CK.c5 {S : RSt} {g : G2} (h : CK S g) (v : Int) : CK S (gI g 0 5 v) := h
def rAns (r : Int × Int × RSt) : Int := if r.1 = 0 then (r.2.2.ass.length : Int) else r.1
theorem c_end {S : RSt} {g : G2} (h : CK S g) (ha : S.ass.length ≤ 40) (m : Nat) (f : Int) (hf : -12 < f ∧ f ≤ 0) : l_L_read_1 (m + 1) 3 f 0 g = some ((if f = 0 then (S.ass.length : Int) else f), g) := by
  have a1 := h.2.2.1.1
  rw [s_L_read_1_3]
  unfold b_L_read_1_3
  rw [if_pos (by omega)]
  by_cases q : f = 0
  · rw [if_pos q, if_pos q, a1]
  · rw [if_neg q, if_neg q]
theorem toks_len : ∀ (ws : List (List Int)) (j : Nat) (b : Bool), (toks j b ws).1.length ≤ ws.length ∧ ∀ j' l ts, (toks j b ws).1 = (j', l) :: ts → j ≤ j' := by
  intro ws
  induction ws with
  | nil => intro j b; exact ⟨Nat.zero_le _, fun j' l ts h => by cases h⟩
  | cons w ws ih =>
    intro j b
    cases b with
    | true =>
      obtain ⟨y1, y2⟩ := ih (j + 1) (decide (w ≠ [36, 41]))
      refine ⟨Nat.le_succ_of_le y1, fun j' l ts h => ?_⟩
      have := y2 j' l ts h
      omega
    | false =>
      by_cases q : w = [36, 40]
      · obtain ⟨y1, y2⟩ := ih (j + 1) true
        have e : toks j false (w :: ws) = toks (j + 1) true ws := by simp [toks, q]
        rw [e]
        refine ⟨Nat.le_succ_of_le y1, fun j' l ts h => ?_⟩
        have := y2 j' l ts h
        omega
      · obtain ⟨y1, y2⟩ := ih (j + 1) false
        have e : toks j false (w :: ws) = ((j, w) :: (toks (j + 1) false ws).1, (toks (j + 1) false ws).2) := by simp [toks, q]
        rw [e]
        refine ⟨Nat.succ_le_succ y1, fun j' l ts h => ?_⟩
        injection h with h1 h2
        injection h1 with h3 h4
        omega
theorem c_read (len : Nat) : ∀ (ts : List (Nat × List Int)) (S : RSt) (g : G2) (ws : List (List Int)) (b : Bool) (j i m : Nat), AtC g len ws j false → toks j false ws = (ts, b) → CRep S g → Iv S → Bh S → i + ws.length < 1600 → ts.length + 5 < m →
    ∃ g', l_L_read_1 m 0 0 (i : Int) g = some (rAns (runS (j + ws.length) b S ts), g') ∧ CK (runS (j + ws.length) b S ts).2.2 g' ∧ rI g' 0 5 = (runS (j + ws.length) b S ts).2.1 := by
  intro ts
  induction ts with
  | nil =>
    intro S g ws b j i m hA ht h hi hb hw hm
    obtain ⟨m, rfl⟩ : ∃ m', m = m' + 5 := ⟨m - 5, by simp at hm; omega⟩
    have ha : S.ass.length ≤ 40 := by have := hi.1.2.2.1; have := hi.1.2.1; omega
    obtain ⟨y1, _⟩ := e_adv len ws 20000 0 j false g hA (by omega) (by
      have := hw; omega)
    obtain ⟨g1, a1, a2, a3, a4⟩ := y1 (by rw [ht])
    rw [ht] at a3
    have a1' : f_Text_advance_2 g = some (0, g1) := a1
    have h1 := h.c1 a2
    have i6 : S.out.length ≤ 6 := hi.1.2.2.2.1
    have hins : f_Reader_isInside_26 (gI g1 0 5 (-1)) = some ((if S.stage ≠ 0 ∨ 0 < S.out.length then 1 else 0), gI g1 0 5 (-1)) := by
      have r1 : rI (gI g1 0 5 (-1)) 25 6 = (S.stage : Int) := h1.2.2.1.1
      have x7 : rI (gI g1 0 5 (-1)) 26 6 = (S.out.length : Int) := h1.2.1.2.2.2.2.1
      have o6 : S.stage ≤ 13 := hi.1.2.2.2.2.2
      unfold f_Reader_isInside_26
      rw [r1, x7, if_pos (by omega)]
      by_cases q : S.stage = 0
      · rw [if_pos (by omega), if_pos (by omega)]
        by_cases q2 : 0 < S.out.length
        · rw [if_pos (by omega), if_pos (Or.inr q2)]
        · rw [if_neg (by omega), if_neg (by omega)]
      · rw [if_neg (by omega), if_pos (Or.inl q)]
    have hstep : l_L_read_1 (m + 5) 0 0 (i : Int) g = l_L_read_1 (m + 4) 1 0 0 g1 := by
      rw [show m + 5 = (m + 4) + 1 by omega, s_L_read_1_0]
      unfold b_L_read_1_0
      rw [if_pos (by omega), if_pos (by omega), if_pos (by decide), if_pos rfl, bd_some a1', if_pos (by decide), if_pos rfl]
    rw [hstep]
    by_cases q : b = true ∨ S.stage ≠ 0 ∨ 0 < S.out.length
    · have hr : runS (j + ws.length) b S [] = (-2, ((j + ws.length : Nat) : Int), S) := by show (if _ then _ else _) = _; rw [if_pos q]
      rw [hr]
      have hun : ∀ g' : G2, rI g' 1 2 = ((j + ws.length : Nat) : Int) → CK S g' → ∃ g'', l_L_read_1 (m + 3) 2 0 0 g' = some (rAns (-2, ((j + ws.length : Nat) : Int), S), g'') ∧ CK S g'' ∧ rI g'' 0 5 = ((j + ws.length : Nat) : Int) := by
        intro g' e2 hc
        refine ⟨gI g' 0 5 (rI g' 1 2), ?_, hc, e2⟩
        rw [show m + 3 = (m + 2) + 1 by omega, s_L_read_1_2]
        unfold b_L_read_1_2
        rw [show m + 2 = (m + 1) + 1 by omega, c_end (S := S) (g := gI g' 0 5 (rI g' 1 2)) hc ha (m + 1) (-2) (by decide)]
        rfl
      rw [show m + 4 = (m + 3) + 1 by omega, s_L_read_1_1]
      unfold b_L_read_1_1
      rw [if_pos (by decide), if_pos rfl, if_pos rfl, a3, if_pos (b01_ir _)]
      cases b with
      | true =>
        rw [if_neg (by decide)]
        exact hun _ a4 h1.1
      | false =>
        rw [if_pos (by decide), bd_some hins, if_pos (show S.stage ≠ 0 ∨ 0 < S.out.length from q.resolve_left (by decide)), if_pos (by decide), if_neg (by decide)]
        exact hun _ a4 h1.1
    · have hr : runS (j + ws.length) b S [] = (0, -1, S) := by show (if _ then _ else _) = _; rw [if_neg q]
      rw [hr]
      have hbf : b = false := by cases b with | false => rfl | true => exact absurd (Or.inl rfl) q
      subst hbf
      rw [show m + 4 = (m + 3) + 1 by omega, s_L_read_1_1]
      unfold b_L_read_1_1
      rw [if_pos (by decide), if_pos rfl, if_pos rfl, a3, if_pos (b01_ir _), if_pos (by decide), bd_some hins, if_neg (show ¬ (S.stage ≠ 0 ∨ 0 < S.out.length) from fun z => q (Or.inr z)), if_pos (by decide), if_pos rfl]
      refine ⟨gI g1 0 5 (-1), ?_, h1.1, rfl⟩
      rw [show m + 3 = (m + 2) + 1 by omega, c_end (S := S) (g := gI g1 0 5 (-1)) h1.1 ha (m + 2) 0 (by decide)]
      rfl
  | cons t ts ih =>
    intro S g ws b j i m hA ht h hi hb hw hm
    obtain ⟨j', l⟩ := t
    simp only [List.length_cons] at hm
    have hjj : j ≤ j' := (toks_len ws j false).2 j' l ts (by rw [ht])
    obtain ⟨m, rfl⟩ : ∃ m', m = m' + 1 := ⟨m - 1, by omega⟩
    obtain ⟨_, y2⟩ := e_adv len ws 20000 0 j false g hA (by omega) (by omega)
    obtain ⟨g1, ws', a1, a2, a3, a4, a5, a6, a7⟩ := y2 j' l ts (by rw [ht])
    rw [ht] at a6
    have a1' : f_Text_advance_2 g = some (1, g1) := a1
    have h1 := h.c1 a2
    obtain ⟨_, w1, w2, w3, w4, w5, w6⟩ := a3
    have a3' : WordC g1 l := ⟨_, w1, w2, w3, w4, w5, w6⟩
    have hout : ∃ f : G2 → Option (Int × G2), OutC S (f g1) (wordS S l) ∧ (∀ r g', f g1 = some (r, g') → KK cT g1 g') ∧ l_L_read_1 (m + 1) 0 0 (i : Int) g = bd (f g1) fun r12 g12 => l_L_read_1 m 0 r12 ((i : Int) + 1) g12 := by
      by_cases h36 : (36 : Int) ∈ l
      · refine ⟨f_Reader_takeKeyword_26_2, ?_, kt_f_Reader_takeKeyword_26_2 g1, ?_⟩
        · have := c_key h1 hi l a3' a4
          unfold wordS
          rw [if_pos h36]; exact this
        · rw [s_L_read_1_0]
          unfold b_L_read_1_0
          rw [if_pos (by omega), if_pos (by omega), if_pos (by decide), if_pos rfl, bd_some a1', if_pos (by decide), if_neg (by decide), w6, if_pos (b01_ir _), decide_eq_true h36, if_neg (by decide)]
      · refine ⟨f_Reader_takeName_26_2, ?_, kt_f_Reader_takeName_26_2 g1, ?_⟩
        · have := c_name h1 hi hb l a3' a4
          unfold wordS
          rw [if_neg h36]; exact this
        · rw [s_L_read_1_0]
          unfold b_L_read_1_0
          rw [if_pos (by omega), if_pos (by omega), if_pos (by decide), if_pos rfl, bd_some a1', if_pos (by decide), if_neg (by decide), w6, if_pos (b01_ir _), decide_eq_false h36, if_pos (by decide)]
    obtain ⟨f, o1, o2, o3⟩ := hout
    rw [o3]
    cases hwS : wordS S l with
    | error fa =>
      rw [hwS] at o1
      obtain ⟨g2, b1, b2, b3, b4⟩ := o1
      have hr : runS (j + ws.length) b S ((j', l) :: ts) = (fa, (j' : Int), S) := by show (match wordS S l with | .error f => _ | .ok S' => _) = _; rw [hwS]
      rw [hr, bd_some b1]
      have hk2 := o2 fa g2 b1
      have e2 : rI g2 1 2 = ((j' + 1 : Nat) : Int) := by rw [show rI g2 1 2 = rI g1 1 2 from congrFun (hk2 1 (show 1 < 3 by decide)).1 2]; exact a5.2.1
      obtain ⟨m, rfl⟩ : ∃ m', m = m' + 3 := ⟨m - 3, by omega⟩
      have ha : S.ass.length ≤ 40 := by have := hi.1.2.2.1; have := hi.1.2.1; omega
      refine ⟨gI g2 0 5 ((rI g2 1 2) - 1), ?_, b2, ?_⟩
      · rw [show m + 3 = (m + 2) + 1 by omega, s_L_read_1_0]
        unfold b_L_read_1_0
        have e1 : l_L_read_1 (m + 2) 1 fa 0 g2 = some (fa, gI g2 0 5 ((rI g2 1 2) - 1)) := by
          rw [show m + 2 = (m + 1) + 1 by omega, s_L_read_1_1]
          unfold b_L_read_1_1
          rw [if_pos (by omega), if_neg (by omega), if_neg (by omega), c_end (S := S) (g := gI g2 0 5 ((rI g2 1 2) - 1)) b2 ha m fa (by omega), if_neg (by omega)]
        have ea : rAns (fa, (j' : Int), S) = fa := by unfold rAns; rw [if_neg (show ¬ fa = 0 by omega)]
        by_cases q : (i : Int) + 1 < 1600
        · rw [if_pos (by omega), if_pos q, if_pos (by omega), if_neg (by omega), e1, ea]
        · rw [if_pos (by omega), if_neg q, e1, ea]
      · show rI g2 1 2 - 1 = (j' : Int)
        rw [e2]; omega
    | ok S' =>
      rw [hwS] at o1
      obtain ⟨g2, b1, b2⟩ := o1
      have hr : runS (j + ws.length) b S ((j', l) :: ts) = runS (j + ws.length) b S' ts := by show (match wordS S l with | .error f => _ | .ok S' => _) = _; rw [hwS]
      obtain ⟨y1, y2'⟩ := iv_word hi hb hwS
      have hk2 := o2 0 g2 b1
      have hA2 := a5.kk hk2 (show 1 < 3 by decide) (show 2 < 3 by decide)
      rw [hr, bd_some b1]
      obtain ⟨g3, z1, z2, z3⟩ := ih S' g2 ws' b (j' + 1) (i + 1) m hA2 a6 b2 y1 y2' (by omega) (by omega)
      rw [a7] at z1 z2 z3
      exact ⟨g3, z1, z2, z3⟩
