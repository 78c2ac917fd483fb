/-! ===== the model: one statement, and the whole reading ===== -/
theorem nil_get {α : Type} {i : Nat} {x : α} (h : ([] : List α)[i]? = some x) : False := by simp at h
theorem low_rep {S : RSt} {g : G2} (h : MKm S g) (hx : MX S g) (h3 : S.stage ≤ 2) : MRep S g := ⟨h, hx, fun z => by omega, fun z => by omega, fun z => by omega, fun z => by omega⟩
theorem mx_open {S : RSt} {g : G2} (h : MX S g) (g' : G2) (hg : g'.2 = g.2) (h14 : rI g' 49 14 = rI g 49 14 + 1) (h23 : rI g' 49 23 = rI g 49 23) : MX (S.uOut (S.out ++ [(S.vars, S.typed, S.hyps, S.prs.length)])) g' := by
  obtain ⟨h1, hV, hH, hP1, P, p1, p2, p3, p4⟩ := h
  have hl : ((S.out ++ [(S.vars, S.typed, S.hyps, S.prs.length)]).length : Int) = (S.out.length : Int) + 1 := by rw [List.length_append]; rfl
  refine ⟨?_, ?_, ?_, ?_, P, p1, ?_, p3, ?_⟩
  · show rI g' 49 14 = ((S.out ++ [(S.vars, S.typed, S.hyps, S.prs.length)]).length : Int)
    rw [h14, h1, hl]
  · intro v hv
    obtain ⟨a1, a2, a3⟩ := hV v hv
    rw [hg]
    refine ⟨a1, fun z => ?_, fun t o ho => ?_⟩
    · have := a2 z
      refine ⟨this.1, ?_⟩
      show g.2.2.1 56 v ≤ ((S.out ++ [(S.vars, S.typed, S.hyps, S.prs.length)]).length : Int)
      rw [hl]; omega
    · rcases ap_get ho with ⟨z1, z2⟩ | ⟨z1, z2⟩
      · exact a3 t o z2
      · subst z1; subst z2
        exact ⟨fun z => ⟨z, (a2 z).2⟩, fun z => z.1⟩
  · intro v hv
    obtain ⟨a1, a2, a3⟩ := hH v hv
    rw [hg]
    refine ⟨a1, fun z => ?_, fun t o ho => ?_⟩
    · have := a2 z
      refine ⟨this.1, ?_⟩
      show g.2.2.1 63 v ≤ ((S.out ++ [(S.vars, S.typed, S.hyps, S.prs.length)]).length : Int)
      rw [hl]; omega
    · rcases ap_get ho with ⟨z1, z2⟩ | ⟨z1, z2⟩
      · exact a3 t o z2
      · subst z1; subst z2
        exact ⟨fun z => ⟨z, (a2 z).2⟩, fun z => z.1⟩
  · show rI g' 49 23 = (S.prs.length : Int)
    rw [h23]; exact hP1
  · intro i p hp
    obtain ⟨a1, a2, a3, a4⟩ := p2 i p hp
    rw [hg]
    refine ⟨a1, a2, a3, ?_⟩
    show p.2.2 ≤ (S.out ++ [(S.vars, S.typed, S.hyps, S.prs.length)]).length
    rw [List.length_append]; omega
  · intro t o ho
    rcases ap_get ho with ⟨z1, z2⟩ | ⟨z1, z2⟩
    · exact p4 t o z2
    · subst z1; subst z2
      refine ⟨fun i p hp => ?_, fun x y => ?_⟩
      · have a := p2 i p hp
        have b := lt_get hp
        show i < S.prs.length ↔ p.2.2 ≤ S.out.length
        omega
      · show (x, y) ∈ S.prs.take S.prs.length ↔ ∃ z, (x, y, z) ∈ P.take S.prs.length
        rw [List.take_length, ← p1, List.take_length]
        exact p3 x y
theorem m_statement {ws : List (List Int)} {b : Bool} {S : RSt} {j : Nat} {l : List Int} {ts : List (Nat × List Int)} {g : G2} (hM : WM g ws) (hR : MRep S g) (hi : Iv S) (hb : Bh S) (h6 : rI g 49 6 = 0) (h7 : rI g 49 7 = -1) (hj : ws[j]? = some l) (hl8 : l.length ≤ 8) (h5 : rI g 49 5 = (j : Int)) (ht : toks (j + 1) false (ws.drop (j + 1)) = (ts, b)) (hs : S.stage = 0) (hts : ts.length ≤ 801) : MRes ws b S ((j, l) :: ts) (f_M_readStatement_50 g) := by
  have hwh := wh_ir l
  have e14 : rI g 49 14 = (S.out.length : Int) := hR.2.1.1
  have o6 := hi.1.2.2.2.1
  unfold f_M_readStatement_50
  rw [h5, bd_some (m_what hM hj), if_pos (by omega)]
  by_cases q0 : whOf l = 0
  · obtain ⟨g', e1, e2⟩ := m_labelled hM hR hi hb h6 h7 hj hl8 h5 ht hs q0 hts
    rw [if_pos q0, e1, Option.bind_some]
    exact ⟨g', rfl, e2⟩
  · rw [if_neg q0]
    have hwk : wordS S l = unlabelledS S (kwOf l) := by
      rw [word_key q0]
      unfold keyS
      rw [if_pos hs]
    obtain ⟨k4, k5, k6, k7, k1, k2, k3, k10, k11⟩ := wh_kind q0
    unfold unlabelledS at hwk
    have hnext := at_next hj ht h5
    have hgo : ∀ S2, wordS S l = .ok S2 → MRep S2 g → MGo ws b S2 ts (gI g 49 5 ((rI g 49 5) + 1)) := fun S2 hw2 hr2 => by
      obtain ⟨y1, y2⟩ := iv_word hi hb hw2
      exact ⟨hM.sf (SF.i (Or.inl rfl)), hr2.sf (SF.i (Or.inl rfl)), y1, y2, hnext, h6, h7⟩
    have hbad : ∀ f, wordS S l = .error f → -12 < f ∧ f < 0 → ∃ g', f_M_fail_50 f (rI g 49 5) g = some g' ∧ MRes ws b S ((j, l) :: ts) (some g') := fun f hw hf => by
      obtain ⟨g4, f1, f2, f3⟩ := m_bad (ws := ws) (b := b) (ts := ts) hw hf hR.1 h6 h5
      exact ⟨g4, f1, g4, rfl, Or.inl f2⟩
    by_cases q1 : whOf l = 1
    · have hk := k1.mp q1
      rw [if_pos hk] at hwk
      rw [if_pos q1]
      unfold f_M_readConstants_50
      rw [if_pos (by omega)]
      by_cases qo : 0 < S.out.length
      · rw [if_pos qo] at hwk
        obtain ⟨g', f1, f2⟩ := hbad _ hwk (by decide)
        rw [if_pos (by omega), f1, Option.bind_some, Option.bind_some]
        exact f2
      · rw [if_neg qo] at hwk
        unfold beginNamesS at hwk
        have hG := hgo _ hwk (low_rep hR.1 hR.2.1 (show 1 ≤ 2 by decide))
        obtain ⟨g', u1, u2⟩ := m_constL ts _ _ 20000 hG rfl (by omega)
        have u1' : l_M_readConstants_50 20000 0 0 0 (gI g 49 5 ((rI g 49 5) + 1)) = some g' := u1
        rw [if_neg (by omega), u1', Option.bind_some]
        exact MRes.ok hwk ⟨g', rfl, u2⟩
    · rw [if_neg q1]
      by_cases q2 : whOf l = 2
      · have hk := k2.mp q2
        rw [if_neg (by omega), if_neg (by omega), if_pos hk] at hwk
        unfold beginNamesS at hwk
        have hG := hgo _ hwk (low_rep hR.1 hR.2.1 (show 2 ≤ 2 by decide))
        obtain ⟨g', u1, u2⟩ := m_varsL ts _ _ 20000 hG rfl (by omega)
        have u1' : l_M_readVariables_50 20000 0 0 0 0 (gI g 49 5 ((rI g 49 5) + 1)) = some g' := u1
        rw [if_pos q2]
        unfold f_M_readVariables_50
        rw [u1', Option.bind_some]
        exact MRes.ok hwk ⟨g', rfl, u2⟩
      · rw [if_neg q2]
        by_cases q3 : whOf l = 3
        · have hk := k3.mp q3
          rw [if_neg (by omega), if_pos hk] at hwk
          unfold beginNamesS at hwk
          have hG := hgo _ hwk ⟨hR.1, hR.2.1, fun _ i v hv => (nil_get hv).elim, fun z => absurd z (by show ¬ (3 = 6 ∨ 3 = 7 ∨ 9 ≤ 3); decide), fun z => absurd z (by show ¬ 10 ≤ 3; decide), fun z => absurd z (by show ¬ 12 ≤ 3; decide)⟩
          obtain ⟨g', u1, u2⟩ := m_apartL ts _ _ 20000 hG rfl (show apF (42 - 0) < 20000 by unfold apF; decide)
          have u1' : l_M_readApart_50 20000 0 0 0 0 0 (gI g 49 5 ((rI g 49 5) + 1)) = some g' := u1
          rw [if_pos q3]
          unfold f_M_readApart_50
          rw [u1', Option.bind_some]
          exact MRes.ok hwk ⟨g', rfl, u2⟩
        · rw [if_neg q3]
          have n1 := fun z => q1 (k1.mpr z)
          have n2 := fun z => q2 (k2.mpr z)
          have n3 := fun z => q3 (k3.mpr z)
          rw [if_neg n1, if_neg n3, if_neg n2] at hwk
          by_cases q10 : whOf l = 10
          · have hk := k10.mp q10
            rw [if_pos hk] at hwk
            unfold openS at hwk
            rw [if_neg (by omega), if_neg (by omega), if_neg (by omega), if_neg (by omega), if_neg (by omega), if_neg (by omega), if_pos q10, if_pos (by omega)]
            by_cases qo : S.out.length = 6
            · rw [if_pos (by omega)] at hwk
              obtain ⟨g', f1, f2⟩ := hbad _ hwk (by decide)
              rw [if_pos (by omega), f1, Option.bind_some, show (20000 : Nat) = 19999 + 1 from rfl, s_M_readStatement_50_0]
              exact f2
            · rw [if_neg (by omega)] at hwk
              rw [if_neg (by omega), show (20000 : Nat) = 19999 + 1 from rfl, s_M_readStatement_50_0]
              unfold b_M_readStatement_50_0
              obtain ⟨y1, y2⟩ := iv_word hi hb hwk
              refine MRes.fin hwk ⟨hM, ⟨hR.1, mx_open hR.2.1 _ rfl rfl rfl, fun z => ?_, fun z => ?_, fun z => ?_, fun z => ?_⟩, y1, y2, hnext, h6, h7⟩ hs
              · exact absurd (show S.stage = 3 from z) (by omega)
              · exact absurd (show S.stage = 6 ∨ S.stage = 7 ∨ 9 ≤ S.stage from z) (by omega)
              · exact absurd (show 10 ≤ S.stage from z) (by omega)
              · exact absurd (show 12 ≤ S.stage from z) (by omega)
          · by_cases q11 : whOf l = 11
            · have hk := k11.mp q11
              rw [if_neg (by omega), if_pos hk] at hwk
              rw [if_neg (by omega), if_neg (by omega), if_neg (by omega), if_neg (by omega), if_neg (by omega), if_neg (by omega), if_neg (by omega), if_pos q11, if_pos (by omega)]
              unfold closeS at hwk
              by_cases qo : S.out.length = 0
              · have : S.out[S.out.length - 1]? = none := List.getElem?_eq_none (by omega)
                rw [this] at hwk
                obtain ⟨g', f1, f2⟩ := hbad _ hwk (by decide)
                rw [if_pos (by omega), f1, Option.bind_some, show (20000 : Nat) = 19999 + 1 from rfl, s_M_readStatement_50_1]
                exact f2
              · obtain ⟨o, ho⟩ := ex_get (l := S.out) (k := S.out.length - 1) (by omega)
                rw [ho] at hwk
                obtain ⟨g', c1, c2, c3, c4, c5, c6⟩ := m_closeScope hR hi hs o ho
                rw [if_neg (by omega), c1, Option.bind_some, show (20000 : Nat) = 19999 + 1 from rfl, s_M_readStatement_50_1]
                unfold b_M_readStatement_50_1
                obtain ⟨y1, y2⟩ := iv_word hi hb hwk
                refine MRes.fin hwk ⟨(c3 ws hM).sf (SF.i (Or.inl rfl)), c2.sf (SF.i (Or.inl rfl)), y1, y2, at_next hj ht (c4.trans h5), c5.trans h6, c6.trans h7⟩ hs
            · have n10 := fun z => q10 (k10.mpr z)
              have n11 := fun z => q11 (k11.mpr z)
              rw [if_neg n10, if_neg n11] at hwk
              obtain ⟨g', f1, f2⟩ := hbad _ hwk (by decide)
              rw [f1, Option.bind_some]
              have hsame : ∀ (p : Prop) [Decidable p] (x y : Option G2), MRes ws b S ((j, l) :: ts) x → MRes ws b S ((j, l) :: ts) y → MRes ws b S ((j, l) :: ts) (if p then x else y) := fun p _ x y hx hy => by split; exact hx; exact hy
              rw [if_neg q10, if_neg q11]
              exact hsame _ _ _ f2 (hsame _ _ _ f2 (hsame _ _ _ f2 (hsame _ _ _ f2 (hsame _ _ _ f2 (hsame _ _ _ f2 f2)))))
/-- the whole reading -/
theorem m_readL {ws : List (List Int)} {b : Bool} : ∀ (n : Nat) (ts : List (Nat × List Int)) (S : RSt) (g : G2) (m : Nat), ts.length ≤ n → n ≤ 801 → MGo ws b S ts g → S.stage = 0 → n + 5 < m → ∃ g', l_M_read_50 m 0 g = some (rAns (rn ws b S ts), g') ∧ rI g' 49 7 = (rn ws b S ts).2.1 ∧ MKm (rn ws b S ts).2.2 g' ∧ ((rn ws b S ts).1 = 0 ∨ (-12 < (rn ws b S ts).1 ∧ (rn ws b S ts).1 < 0)) := by
  have stop : ∀ (r : Int × Int × RSt) (g : G2) (m : Nat), MFin r g → l_M_read_50 (m + 2) 1 g = some (rAns r, g) := fun r g m ⟨a1, a2, a3, a4, a5⟩ => by
    rw [show m + 2 = (m + 1) + 1 from rfl, s_M_read_50_1]
    unfold b_M_read_50_1
    rw [if_pos (by omega), if_neg (by omega), s_M_read_50_2]
    unfold b_M_read_50_2 rAns
    rw [if_pos (by omega), if_neg (by omega), if_neg (by omega), a1]
  intro n
  induction n with
  | zero =>
    intro ts S g m hn h801 h hs hm
    obtain ⟨m, rfl⟩ : ∃ m', m = m' + 3 := ⟨m - 3, by omega⟩
    have hts : ts = [] := List.eq_nil_of_length_eq_zero (by omega)
    subst hts
    obtain ⟨hM, hR, hi, hb, hA, h6, h7⟩ := h
    obtain ⟨g1, a1, a2, a3⟩ := m_come hM hA h6
    rw [show m + 3 = (m + 2) + 1 from rfl, s_M_read_50_0]
    unfold b_M_read_50_0
    rw [if_pos (by omega), if_pos h6, bd_some a1, if_pos (by decide), if_pos rfl]
    have h4 : rI g1 49 4 = (ws.length : Int) := (hM.sf a2).1
    have e14 : rI g1 49 14 = (S.out.length : Int) := (hR.sf a2).2.1.1
    have e27 : rI g1 49 27 = (S.ass.length : Int) := (hR.sf a2).1.2.2.1
    have o6 := hi.1.2.2.2.1
    by_cases q : b = true
    · rw [if_pos q] at a3
      have hf : MFin (rn ws b S []) g1 := by
        rw [run_nil (Or.inl q)]
        exact ⟨a3.1, (show (-12 : Int) < -2 by decide), (show (-2 : Int) < 0 by decide), a3.2, hR.1.sf a2⟩
      rw [stop _ _ m hf]
      exact ⟨g1, rfl, hf.2.2.2.1, hf.2.2.2.2, Or.inr ⟨hf.2.1, hf.2.2.1⟩⟩
    · rw [if_neg q] at a3
      rw [s_M_read_50_1]
      unfold b_M_read_50_1
      rw [if_pos (by omega), if_pos a3.1, if_pos (by omega)]
      by_cases qo : 0 < S.out.length
      · have hrn : rn ws b S [] = (-2, (ws.length : Int), S) := by
          show (if _ then _ else _) = _
          rw [if_pos (Or.inr (Or.inr qo))]
        rw [if_pos (by omega), m_fail0 a3.1, Option.bind_some, s_M_read_50_2, hrn]
        unfold b_M_read_50_2
        have s2 : SF g1 (gI (gI g1 49 6 (-2)) 49 7 (rI g1 49 4)) := (SF.i (Or.inr (Or.inl rfl))).tr (SF.i (Or.inr (Or.inr rfl)))
        have e6 : rI (gI (gI g1 49 6 (-2)) 49 7 (rI g1 49 4)) 49 6 = -2 := rfl
        rw [e6, if_pos (by decide), if_neg (by decide)]
        exact ⟨_, rfl, h4, (hR.1).sf (a2.tr s2), Or.inr (show (-12 : Int) < -2 ∧ (-2 : Int) < 0 by decide)⟩
      · have hrn : rn ws b S [] = (0, -1, S) := by
          show (if _ then _ else _) = _
          rw [if_neg (by rintro (z | z | z); exact q z; exact z hs; exact qo z)]
        rw [if_neg (by omega), s_M_read_50_2, hrn]
        unfold b_M_read_50_2 rAns
        rw [if_pos (by omega), if_pos a3.1, if_pos rfl, e27]
        exact ⟨g1, rfl, a3.2.trans h7, (hR.1).sf a2, Or.inl rfl⟩
  | succ n ih =>
    intro ts S g m hn h801 h hs hm
    obtain ⟨m, rfl⟩ : ∃ m', m = m' + 4 := ⟨m - 4, by omega⟩
    cases ts with
    | nil => exact ih [] S g (m + 4) (Nat.zero_le _) (by omega) h hs (by omega)
    | cons t ts =>
      obtain ⟨j, l⟩ := t
      rw [List.length_cons] at hn
      obtain ⟨hM, hR, hi, hb, hA, h6, h7⟩ := h
      obtain ⟨c1, c2, c3⟩ := m_come hM hA h6
      rw [show m + 4 = (m + 3) + 1 from rfl, s_M_read_50_0]
      unfold b_M_read_50_0
      rw [if_pos (by omega), if_pos h6]
      by_cases q8 : 8 < l.length
      · rw [if_pos q8] at c3
        obtain ⟨g1, a1, a2, a3, a4⟩ := c3
        have hf : MFin (rn ws b S ((j, l) :: ts)) g1 := by
          rw [run_err (word_long q8)]
          exact ⟨a3, (show (-12 : Int) < -3 by decide), (show (-3 : Int) < 0 by decide), a4, hR.1.sf a2⟩
        rw [bd_some a1, if_pos (by decide), if_pos rfl, stop _ _ (m + 1) hf]
        exact ⟨g1, rfl, hf.2.2.2.1, hf.2.2.2.2, Or.inr ⟨hf.2.1, hf.2.2.1⟩⟩
      · rw [if_neg q8] at c3
        obtain ⟨g1, a1, a2, a3, a4, a5, a6⟩ := c3
        rw [bd_some a1, if_pos (by decide), if_neg (by decide)]
        obtain ⟨g2, d1, d2⟩ := m_statement (hM.sf a2) (hR.sf a2) hi hb a3 (a4.trans h7) c1 (by omega) a5 a6 hs (by omega)
        rw [d1, Option.bind_some]
        rcases d2 with d2 | ⟨S2, ts2, e1, e2, e3, e4⟩
        · obtain ⟨f1, f2, f3, f4, f5⟩ := d2
          rw [show m + 3 = (m + 2) + 1 from rfl, s_M_read_50_0]
          unfold b_M_read_50_0
          rw [if_pos (by omega), if_neg (by omega), stop _ _ m ⟨f1, f2, f3, f4, f5⟩]
          exact ⟨g2, rfl, f4, f5, Or.inr ⟨f2, f3⟩⟩
        · rw [e1]
          rw [List.length_cons] at e4
          exact ih ts2 S2 g2 (m + 3) (by omega) (by omega) e2 e3 (by omega)
theorem model_read (g : G2) (len : Nat) (ht : TXM g len) (ws : List (List Int)) (hc : Cut (g.2.2.1 50) len 0 ws) (hw : ws.length ≤ 801) : ∃ g', f_M_read_50 g = some (rAns (runS ws.length (toks 0 false ws).2 RSt.z (toks 0 false ws).1), g') ∧ MKm (runS ws.length (toks 0 false ws).2 RSt.z (toks 0 false ws).1).2.2 g' ∧ rI g' 49 7 = (runS ws.length (toks 0 false ws).2 RSt.z (toks 0 false ws).1).2.1 ∧ ((runS ws.length (toks 0 false ws).2 RSt.z (toks 0 false ws).1).1 = 0 ∨ (-12 < (runS ws.length (toks 0 false ws).2 RSt.z (toks 0 false ws).1).1 ∧ (runS ws.length (toks 0 false ws).2 RSt.z (toks 0 false ws).1).1 < 0)) := by
  obtain ⟨g1, a1, a2, a3⟩ := m_findWords g ht ws hc hw
  unfold f_M_read_50
  rw [a1, Option.bind_some]
  have hlen := (toks_len ws 0 false).1
  have hG : MGo ws (toks 0 false ws).2 RSt.z (toks 0 false ws).1 (gI (gI (gI (gI (gI (gI (gI (gI g1 49 5 0) 49 6 0) 49 7 (-1)) 49 8 0) 49 14 0) 49 15 0) 49 23 0) 49 27 0) := by
    refine ⟨a2, ⟨⟨⟨rfl, fun i x hx => (nil_get hx).elim⟩, ⟨rfl, fun i x hx => (nil_get hx).elim⟩, ⟨rfl, fun i x hx => (nil_get hx).elim⟩⟩, ⟨rfl, fun v hv => absurd hv (Nat.not_lt_zero v), fun v hv => absurd hv (Nat.not_lt_zero v), rfl, [], rfl, fun i x hx => (nil_get hx).elim, fun x y => ⟨fun z => (List.not_mem_nil z).elim, fun ⟨_, z⟩ => (List.not_mem_nil z).elim⟩, fun t o ho => (nil_get ho).elim⟩, fun z => absurd z (by show ¬ 0 = 3; decide), fun z => absurd z (by show ¬ (0 = 6 ∨ 0 = 7 ∨ 9 ≤ 0); decide), fun z => absurd z (by show ¬ 10 ≤ 0; decide), fun z => absurd z (by show ¬ 12 ≤ 0; decide)⟩, iv_z.1, iv_z.2, ⟨0, rfl, Nat.zero_le _, rfl⟩, rfl, rfl⟩
  obtain ⟨g', b1, b2, b3, b4⟩ := m_readL ws.length (toks 0 false ws).1 RSt.z _ 20000 hlen hw hG rfl (by omega)
  exact ⟨g', b1, b3, b2, b4⟩
