/-! ===== the model: letters word by word; a proof ===== -/
def LtsR (ws : List (List Int)) (S : RSt) (a : Int) (i : Nat) (m n : Nat) (g : G2) (r : RS) : Prop := ∃ (g' : G2) (m' : Nat), m ≤ m' + n + 2 ∧ l_M_readLetters_50 m 4 a (i : Int) g = l_M_readLetters_50 m' 5 a 0 g' ∧ match r with
  | .error f => MKm S g' ∧ rI g' 49 6 = f ∧ rI g' 49 7 = rI g 49 5 ∧ -12 < f ∧ f < 0
  | .ok S' => WM g' ws ∧ rI g' 49 5 = rI g 49 5 ∧ rI g' 49 6 = 0 ∧ rI g' 49 7 = rI g 49 7 ∧ MRep S' g' ∧ S'.1 = S.1 ∧ S'.clab = S.clab ∧ S'.ass = S.ass
theorem m_lettersL {ws : List (List Int)} {j : Nat} {l : List Int} (hj : ws[j]? = some l) (a : Nat) : ∀ (rest : List Int) (S : RSt) (g : G2) (m i : Nat), l.drop i = rest → i ≤ l.length → S.ass.length = a → MRep S g → WM g ws → Iv S → Bh S → S.stage = 13 → rI g 49 5 = (j : Int) → rI g 49 6 = 0 → (∀ c ∈ rest, c = 63 ∨ (65 ≤ c ∧ c ≤ 90)) → rest.length + 3 < m → LtsR ws S (a : Int) i m rest.length g (lettersS S rest) := by
  intro rest
  induction rest with
  | nil =>
    intro S g m i hd hil ha hR hW hi hb hs h5 h6 hc hm
    obtain ⟨m, rfl⟩ : ∃ m', m = m' + 1 := ⟨m - 1, by omega⟩
    have hW' := hW
    obtain ⟨h1, h2, h3⟩ := hW
    obtain ⟨hok, b, b1, b2, b3, b4⟩ := h3 j l hj
    have hjl := lt_get hj
    have e52 : rA g 52 ((j : Nat) : Int) = (l.length : Int) := b2
    have hlen : l.length ≤ i := List.drop_eq_nil_iff.mp hd
    refine ⟨g, m, by omega, ?_, hW', rfl, h6, rfl, hR, rfl, rfl, rfl⟩
    rw [s_M_readLetters_50_4]
    unfold b_M_readLetters_50_4
    rw [if_pos (by omega), if_pos h6, if_pos (by omega), if_pos (by omega), h5, e52, if_pos (by omega), if_neg (by omega)]
  | cons c rest ih =>
    intro S g m i hd hil ha hR hW hi hb hs h5 h6 hc hm
    rw [List.length_cons] at hm
    obtain ⟨m, rfl⟩ : ∃ m', m = m' + 2 := ⟨m - 2, by omega⟩
    have hW' := hW
    obtain ⟨h1, h2, h3⟩ := hW
    obtain ⟨hok, b, b1, b2, b3, b4⟩ := h3 j l hj
    have hjl := lt_get hj
    have e52 : rA g 52 ((j : Nat) : Int) = (l.length : Int) := b2
    have hlt : i < l.length := by
      apply Classical.byContradiction
      intro z
      rw [List.drop_eq_nil_of_le (by omega)] at hd
      cases hd
    obtain ⟨c', hc'⟩ := ex_get hlt
    have hd' := hd
    rw [drop_eq hc'] at hd'
    injection hd' with e1 e2
    subst e1
    have hrl := m_readLetter hR hW' hi hb hs c' (hc c' (by simp)) h6
    have hstep : l_M_readLetters_50 (m + 2) 4 (a : Int) (i : Int) g = (f_M_readLetter_50 (a : Int) c' g).bind fun g21 => l_M_readLetters_50 (m + 1) 4 (a : Int) ((i : Int) + 1) g21 := by
      rw [show m + 2 = (m + 1) + 1 by omega, s_M_readLetters_50_4]
      unfold b_M_readLetters_50_4
      rw [if_pos (by omega), if_pos h6, if_pos (by omega), if_pos (by omega), h5, e52, if_pos (by omega), if_pos (by omega), bd_some (m_letter hW' hj hc')]
    rw [ha] at hrl
    have hls : lettersS S (c' :: rest) = match letterS S c' with | .error f => .error f | .ok S1 => lettersS S1 rest := rfl
    rw [hls]
    unfold LtsR
    rw [hstep]
    cases hr : letterS S c' with
    | error f =>
      rw [hr] at hrl
      obtain ⟨g1, d1, d2, d3, d4, d5, d6⟩ := hrl
      rw [d1, Option.bind_some]
      refine ⟨g1, m, by omega, ?_, d2, d3, d4, d5, d6⟩
      rw [s_M_readLetters_50_4]
      unfold b_M_readLetters_50_4
      rw [if_pos (by omega), if_neg (by omega)]
    | ok S1 =>
      rw [hr] at hrl
      obtain ⟨g1, d1, d2, d3, d4, d5, d6, d7, d8, d9⟩ := hrl
      obtain ⟨i1, i2, i3⟩ := iv_letter hi hb hs (hc c' (by simp)) hr
      rw [d1, Option.bind_some]
      obtain ⟨g2, m', u1, u2, u3⟩ := ih S1 g1 (m + 1) (i + 1) e2 (by omega) (by rw [d9]; exact ha) d6 d2 i1 i2 i3 (d3.trans h5) d4 (fun x hx => hc x (by simp [hx])) (by omega)
      refine ⟨g2, m', by rw [List.length_cons]; omega, u2, ?_⟩
      show (match lettersS S1 rest with
        | .error f => MKm S g2 ∧ rI g2 49 6 = f ∧ rI g2 49 7 = rI g 49 5 ∧ -12 < f ∧ f < 0
        | .ok S' => WM g2 ws ∧ rI g2 49 5 = rI g 49 5 ∧ rI g2 49 6 = 0 ∧ rI g2 49 7 = rI g 49 7 ∧ MRep S' g2 ∧ S'.1 = S.1 ∧ S'.clab = S.clab ∧ S'.ass = S.ass)
      cases hr2 : lettersS S1 rest with
      | error f =>
        rw [hr2] at u3
        obtain ⟨v1, v2, v3, v4, v5⟩ := u3
        exact ⟨v1.cg d7.symm, v2, v3.trans d3, v4, v5⟩
      | ok S2 =>
        rw [hr2] at u3
        obtain ⟨v1, v2, v3, v4, v5, v6, v7, v8⟩ := u3
        exact ⟨v1, v2.trans d3, v3, v4.trans d5, v5, v6.trans d7, v7.trans d8, v8.trans d9⟩
theorem m_lettersW {ws : List (List Int)} {b : Bool} : ∀ (ts : List (Nat × List Int)) (S : RSt) (g : G2) (m : Nat), MGo ws b S ts g → S.stage = 13 → 14 * ts.length + 20 < m → ∃ g', l_M_readLetters_50 m 0 (S.ass.length : Int) 0 g = some g' ∧ (MFin (rn ws b S ts) g' ∨ MPrf ws b S ts g') := by
  intro ts
  induction ts with
  | nil =>
    intro S g m h hs hm
    obtain ⟨m, rfl⟩ : ∃ m', m = m' + 6 := ⟨m - 6, by omega⟩
    have h6 := h.2.2.2.2.2.1
    rcases m_need h (by omega) with ⟨g', a1, a2, a3⟩ | ⟨j, l, ts', g', a0, _⟩
    · have a2' := a2.w ((rI g' 49 5) + 1)
      refine ⟨_, ?_, Or.inl a2'⟩
      rw [show m + 6 = (m + 5) + 1 by omega, s_M_readLetters_50_0]
      unfold b_M_readLetters_50_0
      rw [if_pos (by omega), if_pos h6, bd_some a1, if_pos (by decide), if_neg (by decide), if_neg (by decide), show m + 5 = (m + 4) + 1 by omega, s_M_readLetters_50_2]
      unfold b_M_readLetters_50_2
      rw [a2.fail, Option.bind_some, show m + 4 = (m + 3) + 1 by omega, s_M_readLetters_50_3]
      unfold b_M_readLetters_50_3
      rw [show m + 3 = (m + 2) + 1 by omega, s_M_readLetters_50_4]
      unfold b_M_readLetters_50_4
      rw [if_pos a2.ne.2, if_neg a2.ne.1, show m + 2 = (m + 1) + 1 by omega, s_M_readLetters_50_5]
      unfold b_M_readLetters_50_5
      rw [s_M_readLetters_50_0]
      unfold b_M_readLetters_50_0
      rw [if_pos a2'.ne.2, if_neg a2'.ne.1]
    · cases a0
  | cons t ts ih =>
    intro S g m h hs hm
    rw [List.length_cons] at hm
    obtain ⟨m, rfl⟩ : ∃ m', m = m' + 14 := ⟨m - 14, by omega⟩
    have h6 := h.2.2.2.2.2.1
    have hi := h.2.2.1
    have fin0 : ∀ (p : Nat) (r : Int × Int × RSt) (g2 : G2), MFin r g2 → l_M_readLetters_50 (p + 1) 0 (S.ass.length : Int) 0 g2 = some g2 := by
      intro p r g2 hf
      rw [s_M_readLetters_50_0]
      unfold b_M_readLetters_50_0
      rw [if_pos hf.ne.2, if_neg hf.ne.1]
    have fin5 : ∀ (p : Nat) (r : Int × Int × RSt) (g2 : G2), MFin r g2 → l_M_readLetters_50 (p + 2) 5 (S.ass.length : Int) 0 g2 = some (gI g2 49 5 ((rI g2 49 5) + 1)) := by
      intro p r g2 hf
      rw [show p + 2 = (p + 1) + 1 by omega, s_M_readLetters_50_5]
      unfold b_M_readLetters_50_5
      exact fin0 p r _ (hf.w _)
    have fin2 : ∀ (p : Nat) (r : Int × Int × RSt) (f : Int) (g1 g2 : G2), f_M_fail_50 (-3) (rI g1 49 5) g1 = some g2 → MFin r g2 → l_M_readLetters_50 (p + 5) 2 (S.ass.length : Int) 0 g1 = some (gI g2 49 5 ((rI g2 49 5) + 1)) := by
      intro p r f g1 g2 hfl hf
      rw [show p + 5 = (p + 4) + 1 by omega, s_M_readLetters_50_2]
      unfold b_M_readLetters_50_2
      rw [hfl, Option.bind_some, show p + 4 = (p + 3) + 1 by omega, s_M_readLetters_50_3]
      unfold b_M_readLetters_50_3
      rw [show p + 3 = (p + 2) + 1 by omega, s_M_readLetters_50_4]
      unfold b_M_readLetters_50_4
      rw [if_pos hf.ne.2, if_neg hf.ne.1]
      exact fin5 p r g2 hf
    rw [show m + 14 = (m + 13) + 1 by omega, s_M_readLetters_50_0]
    unfold b_M_readLetters_50_0
    rw [if_pos (by omega), if_pos h6]
    rcases m_need h (by omega) with ⟨g', a1, a2, a3⟩ | ⟨j, l, ts', g1, a0, a1, a2, a3, a4, a5, a6, a7, a8, a9, a10, a11⟩
    · refine ⟨_, ?_, Or.inl (a2.w ((rI g' 49 5) + 1))⟩
      rw [bd_some a1, if_pos (by decide), if_neg (by decide), if_neg (by decide), show m + 13 = (m + 8) + 5 by omega]
      exact fin2 (m + 8) _ 0 g' g' (a2.fail _ _) a2
    · injection a0 with a01 a02
      subst a02
      subst a01
      have hwh := wh_ir l
      obtain ⟨x53, x88, x48, x84, xl⟩ := a7.2.2.2.2.2 (by omega)
      obtain ⟨x54, x55, x56⟩ := xl hs
      have t1 : ∀ gg : G2, l_M_readLetters_50 (m + 13) 1 0 0 gg = some gg := by
        intro gg
        rw [show m + 13 = (m + 12) + 1 by omega, s_M_readLetters_50_1]; rfl
      rw [bd_some a1, if_pos (by omega)]
      by_cases q9 : whOf l = 9
      · rw [if_pos q9, x55, if_pos (b01_ir _)]
        cases hin : S.ins with
        | true =>
          have hw : wordS S l = .error (-8) := by
            rw [word_key (by omega), (wh9.mp q9).2]
            unfold keyS endProofS
            rw [if_neg (by omega), if_neg (by omega), if_neg (by omega), if_neg (by omega), if_neg (by omega), if_pos (by omega), if_pos rfl, if_pos ⟨hs, hin⟩]
          obtain ⟨g2, b1, b2, b3⟩ := m_bad (ws := ws) (b := b) (ts := ts) hw (by decide) a7.1 a8 a10
          rw [if_neg (by decide), b1, Option.bind_some, t1]
          exact ⟨g2, rfl, Or.inl b2⟩
        | false =>
          rw [if_pos (by decide), t1]
          exact ⟨g1, rfl, Or.inr ⟨S, j, l, ts, rfl, q9, a4, a6, a7, hi, h.2.2.2.1, by omega, fun _ => hin, rfl, rfl, a11, a10, a8, a9, by rw [List.length_cons]; omega, fun n hn => hn.mono (by omega)⟩⟩
      · rw [if_neg q9]
        by_cases q0 : whOf l = 0
        · have hw1 : wordS S l = takeLettersS S l := by
            rw [word_name q0 a3]
            unfold nameS
            rw [if_neg (by omega), if_neg (by omega), if_neg (by omega), if_neg (by omega), if_neg (by omega), if_neg (by omega), if_neg (by omega), if_neg (by omega), if_neg (by omega), if_neg (by omega), if_neg (by omega), if_pos hs]
          obtain ⟨z1, z2⟩ := m_isLetL a6 a4 a10 l.length 20000 0 (by omega) (by omega)
          rw [List.drop_zero] at z1 z2
          rw [if_pos q0]
          by_cases qb : badLetters l
          · have hw : wordS S l = .error (-3) := by
              rw [hw1]; unfold takeLettersS
              rw [if_pos qb]
            have z1' : f_M_isLetters_50 g1 = some (0, g1) := z1 qb
            obtain ⟨g2, b1, b2, b3⟩ := m_bad (ws := ws) (b := b) (ts := ts) hw (by decide) a7.1 a8 a10
            rw [bd_some z1', if_pos (by decide), if_pos rfl, show m + 13 = (m + 8) + 5 by omega]
            exact ⟨_, fin2 (m + 8) _ 0 g1 g2 b1 b2, Or.inl (b2.w _)⟩
          · have hw2 : wordS S l = lettersS S l := by
              rw [hw1]; unfold takeLettersS
              rw [if_neg qb]
            have z2' : f_M_isLetters_50 g1 = some (1, g1) := z2 qb
            have t3 : l_M_readLetters_50 (m + 13) 3 (S.ass.length : Int) 0 g1 = l_M_readLetters_50 (m + 12) 4 (S.ass.length : Int) ((0 : Nat) : Int) g1 := by
              rw [show m + 13 = (m + 12) + 1 by omega, s_M_readLetters_50_3]; rfl
            rw [bd_some z2', if_pos (by decide), if_neg (by decide), t3]
            have hlt := m_lettersL a4 S.ass.length l S g1 (m + 12) 0 List.drop_zero (by omega) rfl a7 a6 hi h.2.2.2.1 hs a10 a8 (good_letters qb) (by omega)
            cases hr : lettersS S l with
            | error f =>
              rw [hr] at hlt hw2
              obtain ⟨g2, m', u1, u2, u3, u4, u5, u6, u7⟩ := hlt
              have hf : MFin (rn ws b S ((j, l) :: ts)) g2 := by
                rw [run_err hw2]
                exact ⟨u4, u6, u7, by rw [u5, a10], u3⟩
              obtain ⟨p, rfl⟩ : ∃ p, m' = p + 2 := ⟨m' - 2, by omega⟩
              rw [u2]
              exact ⟨_, fin5 p _ g2 hf, Or.inl (hf.w _)⟩
            | ok S1 =>
              rw [hr] at hlt hw2
              obtain ⟨g2, m', u1, u2, u3, u4, u5, u6, u7, u8, u9, u10⟩ := hlt
              obtain ⟨y1, y2⟩ := iv_word hi h.2.2.2.1 hw2
              obtain ⟨_, _, is1⟩ := iv_letters l S S1 hi h.2.2.2.1 hs (good_letters qb) hr
              obtain ⟨p, rfl⟩ : ∃ p, m' = p + 1 := ⟨m' - 1, by omega⟩
              have t5 : l_M_readLetters_50 (p + 1) 5 (S.ass.length : Int) 0 g2 = l_M_readLetters_50 p 0 (S.ass.length : Int) 0 (gI g2 49 5 ((rI g2 49 5) + 1)) := by
                rw [s_M_readLetters_50_5]; rfl
              rw [u2, t5]
              obtain ⟨g', c1, c2⟩ := ih S1 (gI g2 49 5 ((rI g2 49 5) + 1)) p ⟨u3.sf (SF.i (Or.inl rfl)), u7.sf (SF.i (Or.inl rfl)), y1, y2, at_next a4 a11 (u4.trans a10), u5, u6.trans a9⟩ is1 (by omega)
              rw [u10] at c1
              refine ⟨g', c1, ?_⟩
              rcases c2 with c2 | ⟨S2, j2, l2, ts2, d1, d2, d3, d4, d5, d6, d7, d8, d9, d10, d11, d12, d13, d14, d15, d16, d17⟩
              · left; rw [run_ok hw2]; exact c2
              · right; exact ⟨S2, j2, l2, ts2, by rw [run_ok hw2]; exact d1, d2, d3, d4, d5, d6, d7, d8, d9, by rw [d10, u9], by rw [d11, u10], d12, d13, d14, d15, by rw [List.length_cons]; omega, fun n hn => (d17 _ (ub_letters l S S1 n hr hn)).mono (by rw [List.length_cons]; omega)⟩
        · have hw : wordS S l = .error (-3) := by
            rw [word_key q0]
            unfold keyS
            have hm36 : (36 : Int) ∈ l := Classical.byContradiction (fun w => q0 (wh0.mpr w))
            rw [if_neg (by omega), if_neg (by omega), if_neg (by omega), if_neg (by omega), if_neg (by omega), if_pos (by omega), if_neg (fun z => q9 (wh9.mpr ⟨hm36, z⟩))]
          obtain ⟨g2, b1, b2, b3⟩ := m_bad (ws := ws) (b := b) (ts := ts) hw (by decide) a7.1 a8 a10
          rw [if_neg q0, show m + 13 = (m + 8) + 5 by omega]
          exact ⟨_, fin2 (m + 8) _ 0 g1 g2 b1 b2, Or.inl (b2.w _)⟩
/-- a proof is read, its last word too -/
def MPrd (ws : List (List Int)) (b : Bool) (S : RSt) (ts : List (Nat × List Int)) (g' : G2) : Prop := ∃ (S' : RSt) (j : Nat) (l : List Int) (ts' : List (Nat × List Int)), rn ws b S ts = rn ws b S' ((j, l) :: ts') ∧ wordS S' l = declareS S' ∧ WM g' ws ∧ MRep S' g' ∧ Iv S' ∧ Bh S' ∧ 10 ≤ S'.stage ∧ S'.clab = S.clab ∧ S'.ass = S.ass ∧ At g' ws ts' b ∧ rI g' 49 6 = 0 ∧ rI g' 49 7 = -1 ∧ ts'.length < ts.length ∧ ∀ n, UB S n → UB S' (n + 8 * ts.length)
theorem m_prfEnd {ws : List (List Int)} {b : Bool} {S : RSt} {ts : List (Nat × List Int)} {g g1 : G2} {o : Option G2} (ho : o = some g1) (h : MFin (rn ws b S ts) g1 ∨ MPrf ws b S ts g1) : ∃ g', (o.bind fun g7 => if ir (rI g7 49 6) then if (rI g7 49 6) = 0 then (f_M_finish_50 g7).bind fun g10 => some g10 else some g7 else none) = some g' ∧ (MFin (rn ws b S ts) g' ∨ MPrd ws b S ts g') := by
  rw [ho, Option.bind_some]
  rcases h with h | ⟨S2, j2, l2, ts2, d1, d2, d3, d4, d5, d6, d7, d8, d9, d10, d11, d12, d13, d14, d15, d16, d17⟩
  · rw [if_pos h.ne.2, if_neg h.ne.1]
    exact ⟨g1, rfl, Or.inl h⟩
  · obtain ⟨g', f1, f2⟩ := m_finish (ws := ws) (b := b) (ts := ts2) d5 d6 d8 d9 d2 d13 d14
    rw [if_pos (by omega), if_pos d14, f1, Option.bind_some]
    refine ⟨g', rfl, ?_⟩
    rcases f2 with f2 | ⟨f2, f3⟩
    · left; rw [d1]; exact f2
    · right
      subst f3
      exact ⟨S2, j2, l2, ts2, d1, f2, d4.sf (SF.i (Or.inl rfl)), d5.sf (SF.i (Or.inl rfl)), d6, d7, by omega, d10, d11, at_next d3 d12 d13, d14, d15, d16, d17⟩
theorem MPrf.ok {ws : List (List Int)} {b : Bool} {S S1 : RSt} {ts ts1 : List (Nat × List Int)} {g : G2} (h : MPrf ws b S1 ts1 g) (e : rn ws b S ts = rn ws b S1 ts1) (e1 : S1.clab = S.clab) (e2 : S1.ass = S.ass) (e3 : ts1.length ≤ ts.length) (e4 : S1.ca = S.ca) : MPrf ws b S ts g := by
  obtain ⟨S2, j2, l2, ts2, d1, d2, d3, d4, d5, d6, d7, d8, d9, d10, d11, d12, d13, d14, d15, d16, d17⟩ := h
  exact ⟨S2, j2, l2, ts2, e.trans d1, d2, d3, d4, d5, d6, d7, d8, d9, d10.trans e1, d11.trans e2, d12, d13, d14, d15, by omega, fun n hn => (d17 n (by unfold UB at hn ⊢; rw [e4]; exact hn)).mono (by omega)⟩
theorem toks_ne : ∀ (ws : List (List Int)) (j : Nat) (c : Bool) (i : Nat) (l : List Int) (ts : List (Nat × List Int)) (b : Bool), toks j c ws = ((i, l) :: ts, b) → l ≠ [36, 40] := by
  intro ws
  induction ws with
  | nil => intro j c i l ts b h; cases c <;> cases h
  | cons w ws ih =>
    intro j c i l ts b h
    cases c with
    | true => exact ih (j + 1) _ i l ts b h
    | false =>
      have h : (if w = [36, 40] then toks (j + 1) true ws else ((j, w) :: (toks (j + 1) false ws).1, (toks (j + 1) false ws).2)) = ((i, l) :: ts, b) := h
      by_cases q : w = [36, 40]
      · rw [if_pos q] at h; exact ih (j + 1) _ i l ts b h
      · rw [if_neg q] at h
        injection h with h1 h2
        injection h1 with h3 h4
        injection h3 with h5 h6
        subst h6
        exact q
theorem m_readProof {ws : List (List Int)} {b : Bool} {S : RSt} {ts : List (Nat × List Int)} {g : G2} (h : MGo ws b S ts g) (hs : S.stage = 10) (hts : ts.length ≤ 801) : ∃ g', f_M_readProof_50 (S.ass.length : Int) g = some g' ∧ (MFin (rn ws b S ts) g' ∨ MPrd ws b S ts g') := by
  have hi := h.2.2.1
  unfold f_M_readProof_50
  rcases m_need h (by omega) with ⟨g', a1, a2, a3⟩ | ⟨j, l, ts', g1, a0, a1, a2, a3, a4, a5, a6, a7, a8, a9, a10, a11⟩
  · rw [bd_some a1, if_pos (by decide), if_neg (by decide)]
    have e : f_M_readSteps_50 (S.ass.length : Int) g' = some g' := by
      unfold f_M_readSteps_50
      rw [show (20000 : Nat) = 19999 + 1 from rfl, s_M_readSteps_50_0]
      unfold b_M_readSteps_50_0
      rw [if_pos a2.ne.2, if_neg a2.ne.1]
    exact m_prfEnd (g := g) e (Or.inl a2)
  · have hwh := wh_ir l
    have hA : At g1 ws ts b := by
      refine ⟨j, a10, by have := lt_get a4; omega, ?_⟩
      have hne : l ≠ [36, 40] := by
        obtain ⟨w, _, _, w3⟩ := h.2.2.2.2.1
        rw [a0] at w3
        exact toks_ne _ _ _ _ _ _ _ w3
      rw [drop_eq a4, a0]
      show (if l = [36, 40] then _ else _) = _
      rw [if_neg hne, a11]
    have hgo : MGo ws b S ts g1 := ⟨a6, a7, hi, h.2.2.2.1, hA, a8, a9⟩
    rw [bd_some a1, if_pos (by omega)]
    by_cases q0 : whOf l = 0
    · rw [if_pos q0, bd_some (m_isWord a6 a4 a10 40 (by decide)), if_pos (b01_ir _)]
      by_cases q40 : l = [40]
      · rw [decide_eq_true q40, if_neg (by decide)]
        have hw : wordS S l = .ok (((((((S.uRefs (hsOf S.sms.length S.cmand)).uLstd 0).uTags []).uTc 0).uIns false).uBeh false).uStage 12) := by
          rw [word_name q0 a3]
          unfold nameS
          rw [if_neg (by omega), if_neg (by omega), if_neg (by omega), if_neg (by omega), if_neg (by omega), if_neg (by omega), if_neg (by omega), if_neg (by omega), if_pos hs]
          unfold beginStepsS
          rw [if_neg (fun z => z ((cd_one a2 a3 (n := 40) (by decide)).mpr q40))]
        obtain ⟨y1, y2⟩ := iv_word hi h.2.2.2.1 hw
        obtain ⟨hK, hX, hD, hC, hP, hL⟩ := a7
        obtain ⟨p1, p2⟩ := hP (by omega)
        have p2' := p2 (by omega)
        have hR : MRep (((((((S.uRefs (hsOf S.sms.length S.cmand)).uLstd 0).uTags []).uTc 0).uIns false).uBeh false).uStage 12) (gI (gI g1 49 5 ((rI g1 49 5) + 1)) 49 53 0) := by
          refine ⟨hK, hX, fun z => absurd z (by show ¬ 12 = 3; decide), fun _ => hC (Or.inr (Or.inr (by omega))), fun _ => ⟨p1, fun z => absurd z (by show ¬ 12 < 12; decide)⟩, fun _ => ⟨rfl, fun i k hk => ?_, p2', fun r e he => ?_, fun z => absurd z (by show ¬ 12 = 13; decide)⟩⟩
          · have hk : ((hsOf S.sms.length S.cmand).drop (hsOf S.sms.length S.cmand).length)[i]? = some k := hk
            rw [List.drop_eq_nil_of_le (by omega)] at hk
            cases hk
          · have he : ([] : List (List Nat × Int64))[r]? = some e := he
            cases he
        have hgo2 : MGo ws b (((((((S.uRefs (hsOf S.sms.length S.cmand)).uLstd 0).uTags []).uTc 0).uIns false).uBeh false).uStage 12) ts' (gI (gI g1 49 5 ((rI g1 49 5) + 1)) 49 53 0) := ⟨a6, hR, y1, y2, at_next (g := g1) a4 a11 a10, a8, a9⟩
        have hrun : rn ws b S ts = rn ws b (((((((S.uRefs (hsOf S.sms.length S.cmand)).uLstd 0).uTags []).uTc 0).uIns false).uBeh false).uStage 12) ts' := by rw [a0]; exact run_ok hw
        have hlt : ts'.length < ts.length := by rw [a0, List.length_cons]; omega
        obtain ⟨g2, c1, c2⟩ := m_listedL ts' _ _ 20000 hgo2 rfl ⟨rfl, rfl⟩ (by omega)
        have c1' : f_M_readListed_50 (S.ass.length : Int) (gI g1 49 5 ((rI g1 49 5) + 1)) = some g2 := c1
        rw [c1', Option.bind_some]
        rcases c2 with c2 | ⟨S3, ts3, d1, d2, d3, d4, d5, d6, d7, d8⟩
        · rw [if_pos c2.ne.2, if_neg c2.ne.1, if_neg c2.ne.1]
          exact ⟨g2, rfl, Or.inl (by rw [hrun]; exact c2)⟩
        · rw [if_pos (by omega), if_pos d7]
          obtain ⟨g3, e1, e2⟩ := m_lettersW ts3 S3 _ 20000 d2 d3 (by omega)
          rw [d5] at e1
          refine m_prfEnd (g := g) (g1 := g3) e1 ?_
          rw [hrun, d1]
          rcases e2 with e2 | e2
          · exact Or.inl e2
          · exact Or.inr (e2.ok (hrun.trans d1) d4 d5 (by omega) d8)
      · rw [decide_eq_false q40, if_pos (by decide)]
        obtain ⟨g2, c1, c2⟩ := m_stepsL ts S g1 20000 hgo (Or.inl hs) (fun _ j2 l2 ts2 z => by rw [a0] at z; injection z with z1 z2; injection z1 with _ z1; subst z1; exact q40) (by omega)
        exact m_prfEnd (g := g) (g1 := g2) c1 c2
    · rw [if_neg q0]
      obtain ⟨g2, c1, c2⟩ := m_stepsL ts S g1 20000 hgo (Or.inl hs) (fun _ j2 l2 ts2 z => by
        rw [a0] at z; injection z with z1 z2; injection z1 with _ z1; subst z1
        intro z3
        refine q0 (wh0.mpr ?_)
        rw [z3]; decide) (by omega)
      exact m_prfEnd (g := g) (g1 := g2) c1 c2
