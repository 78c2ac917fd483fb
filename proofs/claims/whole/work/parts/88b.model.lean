/-! ===== the model: the steps of a proof ===== -/
/-- a proof is read up to the word that ends it -/
def MPrf (ws : List (List Int)) (b : Bool) (S : RSt) (ts : List (Nat × List Int)) (g' : G2) : Prop := ∃ (S' : RSt) (j : Nat) (l : List Int) (ts' : List (Nat × List Int)), rn ws b S ts = rn ws b S' ((j, l) :: ts') ∧ whOf l = 9 ∧ ws[j]? = some l ∧ WM g' ws ∧ MRep S' g' ∧ Iv S' ∧ Bh S' ∧ (S'.stage = 10 ∨ S'.stage = 11 ∨ S'.stage = 13) ∧ (S'.stage = 13 → S'.ins = false) ∧ S'.clab = S.clab ∧ S'.ass = S.ass ∧ toks (j + 1) false (ws.drop (j + 1)) = (ts', b) ∧ rI g' 49 5 = (j : Int) ∧ rI g' 49 6 = 0 ∧ rI g' 49 7 = -1 ∧ ts'.length < ts.length ∧ ∀ n, UB S n → UB S' (n + 8 * ts.length)
theorem rep11 {S : RSt} {g : G2} (h : MRep S g) (hs : S.stage = 10 ∨ S.stage = 11) : MRep (S.uStage 11) g := by
  obtain ⟨hK, hX, hD, hC, hP, hL⟩ := h
  refine ⟨hK, hX, fun z => absurd z (by show ¬ 11 = 3; decide), fun _ => hC (by omega), fun _ => ⟨(hP (by omega)).1, fun _ => (hP (by omega)).2 (by omega)⟩, fun z => absurd z (by show ¬ 12 ≤ 11; decide)⟩
theorem rep_gap {S : RSt} {g : G2} (h : MRep S g) (hs : 10 ≤ S.stage) : MRep (gapS S) (gI g 49 51 1) := by
  obtain ⟨hK, hX, hD, hC, hP, hL⟩ := h
  obtain ⟨⟨⟨p1, p2⟩, p3, p4, p5, p6⟩, p7⟩ := hP hs
  exact ⟨hK, hX, hD, hC, fun _ => ⟨⟨⟨p1, p2⟩, p3, p4, p5, rfl⟩, p7⟩, hL⟩
theorem step_st {S S' : RSt} {k : Nat} (h : stepWithS S k = .ok S') : S'.clab = S.clab ∧ S'.ass = S.ass ∧ S'.stage = S.stage := by
  unfold stepWithS at h
  by_cases hg : S.gap = true
  · rw [if_pos hg] at h; injection h with h; subst h; exact ⟨rfl, rfl, rfl⟩
  · rw [if_neg hg] at h
    have put : ∀ (T : RSt) (e : List Nat × Int64), putS T e = .ok S' → S'.clab = T.clab ∧ S'.ass = T.ass ∧ S'.stage = T.stage := by
      intro T e hp
      unfold putS at hp
      by_cases q : 16 ≤ T.stk.length
      · rw [if_pos q] at hp; cases hp
      · rw [if_neg q] at hp; injection hp with hp; subst hp; exact ⟨rfl, rfl, rfl⟩
    cases hk : S.sms[k]? with
    | none => rw [hk] at h; cases h
    | some s =>
      rw [hk] at h
      have h : (if s.kind ≤ 1 then putS S (s.row, s.vs) else if S.stk.length < (hsOf k s.mand).length then .error (-9) else match bindS S (hsOf k s.mand) (S.stk.length - (hsOf k s.mand).length) (fun _ => 0) with | none => .error (-10) | some σ => useS S k s (S.stk.length - (hsOf k s.mand).length) σ) = Except.ok S' := h
      by_cases q1 : s.kind ≤ 1
      · rw [if_pos q1] at h; have z := put _ _ h; exact z
      · rw [if_neg q1] at h
        by_cases q2 : S.stk.length < (hsOf k s.mand).length
        · rw [if_pos q2] at h; cases h
        · rw [if_neg q2] at h
          cases hb : bindS S (hsOf k s.mand) (S.stk.length - (hsOf k s.mand).length) (fun _ => 0) with
          | none => rw [hb] at h; cases h
          | some σ =>
            rw [hb] at h
            have h : useS S k s (S.stk.length - (hsOf k s.mand).length) σ = Except.ok S' := h
            unfold useS at h
            by_cases q3 : keepsS S σ (prsS S s.asn)
            · rw [if_pos q3] at h
              by_cases q4 : 24 < (repS S σ s.row).1.length
              · rw [if_pos q4] at h; cases h
              · rw [if_neg q4] at h; have z := put _ _ h; exact z
            · rw [if_neg q3] at h; cases h
theorem m_stepsL {ws : List (List Int)} {b : Bool} : ∀ (ts : List (Nat × List Int)) (S : RSt) (g : G2) (m : Nat), MGo ws b S ts g → (S.stage = 10 ∨ S.stage = 11) → (S.stage = 10 → ∀ (j : Nat) (l : List Int) (ts' : List (Nat × List Int)), ts = (j, l) :: ts' → l ≠ [40]) → ts.length + 3 < m → ∃ g', l_M_readSteps_50 m 0 (S.ass.length : Int) g = some g' ∧ (MFin (rn ws b S ts) g' ∨ MPrf ws b S ts g') := by
  intro ts
  induction ts with
  | nil =>
    intro S g m h hs h40 hm
    obtain ⟨m, rfl⟩ : ∃ m', m = m' + 2 := ⟨m - 2, by omega⟩
    have h6 := h.2.2.2.2.2.1
    rcases m_need h (by omega) with ⟨g', a1, a2, a3⟩ | ⟨j, l, ts', g', a0, _⟩
    · refine ⟨g', ?_, Or.inl a2⟩
      rw [show m + 2 = (m + 1) + 1 by omega, s_M_readSteps_50_0]
      unfold b_M_readSteps_50_0
      rw [if_pos (by omega), if_pos h6, bd_some a1, if_pos (by decide), if_neg (by decide), if_neg (by decide), a2.fail, Option.bind_some, s_M_readSteps_50_0]
      unfold b_M_readSteps_50_0
      rw [if_pos a2.ne.2, if_neg a2.ne.1]
    · cases a0
  | cons t ts ih =>
    intro S g m h hs h40 hm
    rw [List.length_cons] at hm
    obtain ⟨m, rfl⟩ : ∃ m', m = m' + 2 := ⟨m - 2, by omega⟩
    have h6 := h.2.2.2.2.2.1
    have hi := h.2.2.1
    have n60 := hi.1.1
    have fin : ∀ (r : Int × Int × RSt) (a : Int) (g2 : G2), MFin r g2 → l_M_readSteps_50 (m + 1) 0 a g2 = some g2 := by
      intro r a g2 hf
      rw [s_M_readSteps_50_0]
      unfold b_M_readSteps_50_0
      rw [if_pos hf.ne.2, if_neg hf.ne.1]
    rw [show m + 2 = (m + 1) + 1 by omega, s_M_readSteps_50_0]
    unfold b_M_readSteps_50_0
    rw [if_pos (by omega), if_pos h6]
    rcases m_need h (by omega) with ⟨g', a1, a2, a3⟩ | ⟨j, l, ts', g1, a0, a1, a2, a3, a4, a5, a6, a7, a8, a9, a10, a11⟩
    · refine ⟨g', ?_, Or.inl a2⟩
      rw [bd_some a1, if_pos (by decide), if_neg (by decide), if_neg (by decide), a2.fail, Option.bind_some]
      exact fin _ _ _ a2
    · have h40' : S.stage = 10 → l ≠ [40] := fun z => h40 z j l ts' a0
      injection a0 with a01 a02
      subst a02
      subst a01
      have hwh := wh_ir l
      rw [bd_some a1, if_pos (by omega)]
      by_cases q9 : whOf l = 9
      · rw [if_pos q9]
        exact ⟨g1, rfl, Or.inr ⟨S, j, l, ts, rfl, q9, a4, a6, a7, hi, h.2.2.2.1, by omega, fun z => by omega, rfl, rfl, a11, a10, a8, a9, by rw [List.length_cons]; omega, fun n hn => hn.mono (by omega)⟩⟩
      · rw [if_neg q9]
        by_cases q0 : whOf l = 0
        · have hw1 : wordS S l = takeStepS (S.uStage 11) (cdOf l) := by
            rw [word_name q0 a3]
            unfold nameS
            rw [if_neg (by omega), if_neg (by omega), if_neg (by omega), if_neg (by omega), if_neg (by omega), if_neg (by omega), if_neg (by omega), if_neg (by omega)]
            rcases hs with hs | hs
            · rw [if_pos hs]
              unfold beginStepsS
              rw [if_pos (fun z => h40' hs ((cd_one a2 a3 (n := 40) (by decide)).mp z))]
            · rw [if_neg (by omega), if_pos hs]
              have e : S.uStage 11 = S := by
                obtain ⟨K, X, ⟨s, C⟩, R⟩ := S
                have hs2 : s = 11 := hs
                subst hs2; rfl
              rw [e]
          have hi1 : Iv (S.uStage 11) := iv_stage hi (by omega) 11 (by decide) (by decide) (fun z => absurd z (by decide))
          have a71 := rep11 a7 hs
          have go : ∀ (S' : RSt) (g2 : G2), wordS S l = .ok S' → MRep S' g2 → WM g2 ws → rI g2 49 5 = (j : Int) → rI g2 49 6 = 0 → rI g2 49 7 = -1 → S'.stage = 11 → S'.clab = S.clab → S'.ass = S.ass → (∀ n, UB S n → UB S' (n + 1)) → ∃ g', l_M_readSteps_50 (m + 1) 0 (S.ass.length : Int) (gI g2 49 5 ((rI g2 49 5) + 1)) = some g' ∧ (MFin (rn ws b S ((j, l) :: ts)) g' ∨ MPrf ws b S ((j, l) :: ts) g') := by
            intro S' g2 hw k1 k2 k3 k4 k5 k6 k7 k8 k9
            obtain ⟨y1, y2⟩ := iv_word hi h.2.2.2.1 hw
            obtain ⟨g', c1, c2⟩ := ih S' (gI g2 49 5 ((rI g2 49 5) + 1)) (m + 1) ⟨k2.sf (SF.i (Or.inl rfl)), k1.sf (SF.i (Or.inl rfl)), y1, y2, at_next a4 a11 k3, k4, k5⟩ (Or.inr k6) (fun z => by omega) (by omega)
            rw [k8] at c1
            refine ⟨g', c1, ?_⟩
            rcases c2 with c2 | ⟨S2, j2, l2, ts2, d1, d2, d3, d4, d5, d6, d7, d8, d9, d10, d11, d12, d13, d14, d15, d16, d17⟩
            · left; rw [run_ok hw]; exact c2
            · right; exact ⟨S2, j2, l2, ts2, by rw [run_ok hw]; exact d1, d2, d3, d4, d5, d6, d7, d8, d9, by rw [d10, k7], by rw [d11, k8], d12, d13, d14, d15, by rw [List.length_cons]; omega, fun n hn => (d17 (n + 1) (k9 n hn)).mono (by rw [List.length_cons]; omega)⟩
          rw [if_pos q0, bd_some (m_isWord a6 a4 a10 63 (by decide)), if_pos (b01_ir _)]
          have c63 := cd_one a2 a3 (n := 63) (by decide)
          by_cases q63 : l = [63]
          · have hw : wordS S l = .ok (gapS (S.uStage 11)) := by
              rw [hw1]; unfold takeStepS
              rw [if_pos (c63.mpr q63)]
            rw [decide_eq_true q63, if_neg (by decide)]
            exact go (gapS (S.uStage 11)) (gI g1 49 51 1) hw (rep_gap a71 (by show 10 ≤ 11; decide)) a6 a10 a8 a9 rfl rfl rfl (fun n hn => (show UB (gapS (S.uStage 11)) n from hn).mono (by omega))
          · have hw2 : wordS S l = (match usableS (S.uStage 11) (cdOf l) with | none => .error (-8) | some k => stepWithS (S.uStage 11) k) := by
              rw [hw1]; unfold takeStepS
              rw [if_neg (fun z => q63 (c63.mp z))]
              rfl
            rw [decide_eq_false q63, if_pos (by decide)]
            rcases m_lookUp a71 hi1 a6 a4 a10 with ⟨u1, u2⟩ | ⟨k, u1, u2, u3⟩
            · have hw : wordS S l = .error (-8) := by rw [hw2, u1]
              obtain ⟨g2, b1, b2, b3⟩ := m_bad (ws := ws) (b := b) (ts := ts) hw (by decide) a7.1 a8 a10
              rw [u2, b1, Option.bind_some, bd_some (show (some ((-1 : Int), g2) : Option (Int × G2)) = some (-1, g2) from rfl), if_pos (by decide), if_pos (by decide)]
              exact ⟨_, fin _ _ _ (b2.w _), Or.inl (b2.w _)⟩
            · have hst := m_step a71 hi1 (by show 10 ≤ 11; decide) k u2 a8
              have hw : wordS S l = stepWithS (S.uStage 11) k := by rw [hw2, u1]
              have hk40 : (k : Int) < 40 := by
                have : k < S.sms.length := u2
                have := hi.1.2.1
                omega
              rw [bd_some u3, if_pos (by omega), if_neg (by omega)]
              cases hr : stepWithS (S.uStage 11) k with
              | error f =>
                rw [hr] at hst hw
                obtain ⟨g2, b1, b2, b3, b4, b5, b6⟩ := hst
                have hf : MFin (rn ws b S ((j, l) :: ts)) g2 := by
                  rw [run_err hw]
                  exact ⟨b3, b5, b6, by rw [b4, a10], b2.km a7.1⟩
                have b1' : f_M_step_50 (S.ass.length : Int) (k : Int) g1 = some g2 := b1
                rw [b1', Option.bind_some]
                exact ⟨_, fin _ _ _ (hf.w _), Or.inl (hf.w _)⟩
              | ok S' =>
                rw [hr] at hst hw
                obtain ⟨g2, b1, b2, b3, b4, b5⟩ := hst
                have b1' : f_M_step_50 (S.ass.length : Int) (k : Int) g1 = some g2 := b1
                rw [b1', Option.bind_some]
                obtain ⟨st1, st2, st3⟩ := step_st hr
                exact go S' g2 hw b5 (b2.wm a6) ((b2.2.2.1 5 (by decide) (by decide) (by decide)).trans a10) b3 (b4.trans a9) st3 st1 st2 (fun n hn => ub_step hr (show UB (S.uStage 11) n from hn))
        · have hw : wordS S l = .error (-3) := by
            rw [word_key q0]
            unfold keyS
            have hm36 : (36 : Int) ∈ l := Classical.byContradiction (fun w => q0 (wh0.mpr w))
            rw [if_neg (by omega), if_neg (by omega), if_neg (by omega), if_neg (by omega), if_neg (by omega), if_pos (by omega), if_neg (fun z => q9 (wh9.mpr ⟨hm36, z⟩))]
          obtain ⟨g2, b1, b2, b3⟩ := m_bad (ws := ws) (b := b) (ts := ts) hw (by decide) a7.1 a8 a10
          rw [if_neg q0, b1, Option.bind_some]
          exact ⟨_, fin _ _ _ b2, Or.inl b2⟩
/-! the end of a proof -/
theorem m_fin0 {g : G2} (n i m : Nat) (hn : n ≤ 24) (hi : i ≤ n) (h40 : rI g 49 40 = (n : Int)) : l_M_finish_50 (m + 1) 0 0 (i : Int) g = (f_M_fail_50 (-10) (rI g 49 5) g).bind fun g15 => some (gI g15 49 5 ((rI g15 49 5) + 1)) := by
  rw [s_M_finish_50_0]
  unfold b_M_finish_50_0
  rw [if_pos (by omega), if_pos (by omega)]
  by_cases q : (i : Int) < rI g 49 40
  · rw [if_pos q, if_pos (by decide), if_pos rfl, if_pos rfl]
  · rw [if_neg q, if_pos (by decide), if_pos rfl]
theorem m_fin1 {g : G2} (A B : List Nat) (hl : A.length = B.length) (h24 : B.length ≤ 24) (h60 : ∀ v ∈ A, v < 60) (h60' : ∀ v ∈ B, v < 60) (hA : RowAt (g.2.2.1 82) 0 A) (hB : RowAt (g.2.2.1 79) 0 B) (h40 : rI g 49 40 = (B.length : Int)) : ∀ (d m i : Nat), i + d = B.length → d + 1 < m → l_M_finish_50 m 0 1 (i : Int) g = if A.drop i = B.drop i then some (gI g 49 5 ((rI g 49 5) + 1)) else (f_M_fail_50 (-10) (rI g 49 5) g).bind fun g15 => some (gI g15 49 5 ((rI g15 49 5) + 1)) := by
  intro d
  induction d with
  | zero =>
    intro m i hi hm
    obtain ⟨m, rfl⟩ : ∃ m', m = m' + 1 := ⟨m - 1, by omega⟩
    rw [List.drop_eq_nil_of_le (by omega), List.drop_eq_nil_of_le (by omega), if_pos rfl, s_M_finish_50_0]
    unfold b_M_finish_50_0
    rw [if_pos (by omega), if_pos (by omega), if_neg (by omega), if_pos (by decide), if_neg (by decide)]
  | succ d ih =>
    intro m i hi hm
    obtain ⟨m, rfl⟩ : ∃ m', m = m' + 2 := ⟨m - 2, by omega⟩
    obtain ⟨x, hx⟩ := ex_get (l := A) (k := i) (by omega)
    obtain ⟨y, hy⟩ := ex_get (l := B) (k := i) (by omega)
    have hx60 := h60 x (List.mem_of_getElem? hx)
    have hy60 := h60' y (List.mem_of_getElem? hy)
    have e82 : rA g 82 ((i : Nat) : Int) = (x : Int) := by
      have := hA i x hx
      rw [Nat.zero_add] at this; exact this
    have e79 : rA g 79 ((i : Nat) : Int) = (y : Int) := by
      have := hB i y hy
      rw [Nat.zero_add] at this; exact this
    have hstep : l_M_finish_50 (m + 2) 0 1 (i : Int) g = if (x : Int) = (y : Int) then l_M_finish_50 (m + 1) 0 1 ((i : Int) + 1) g else l_M_finish_50 (m + 1) 0 0 ((i : Int) + 1) g := by
      rw [show m + 2 = (m + 1) + 1 by omega, s_M_finish_50_0]
      unfold b_M_finish_50_0
      rw [if_pos (by omega), if_pos (by omega), if_pos (by omega), if_pos (by decide), if_neg (by decide), if_pos (by omega), if_pos (by omega), e82, if_pos (by omega), e79, if_pos (by omega)]
    rw [hstep, drop_eq hx, drop_eq hy]
    by_cases q : x = y
    · subst q
      rw [if_pos rfl]
      have := ih (m + 1) (i + 1) (by omega) (by omega)
      rw [show ((i : Int) + 1) = ((i + 1 : Nat) : Int) by omega, this]
      by_cases q2 : A.drop (i + 1) = B.drop (i + 1)
      · rw [if_pos q2, if_pos (by rw [q2])]
      · rw [if_neg q2, if_neg (fun z => q2 (by injection z))]
    · rw [if_neg (by omega), if_neg (fun z => q (by injection z)), show ((i : Int) + 1) = ((i + 1 : Nat) : Int) by omega]
      exact m_fin0 B.length (i + 1) m h24 (by omega) h40
theorem m_finish {ws : List (List Int)} {b : Bool} {S : RSt} {g : G2} {j : Nat} {l : List Int} {ts : List (Nat × List Int)} (hR : MRep S g) (hi : Iv S) (hst : S.stage = 10 ∨ S.stage = 11 ∨ S.stage = 13) (hin : S.stage = 13 → S.ins = false) (h9 : whOf l = 9) (h5 : rI g 49 5 = (j : Int)) (h6 : rI g 49 6 = 0) :
    ∃ g', f_M_finish_50 g = some g' ∧ (MFin (rn ws b S ((j, l) :: ts)) g' ∨ (wordS S l = declareS S ∧ g' = gI g 49 5 ((rI g 49 5) + 1))) := by
  obtain ⟨⟨⟨_, _⟩, _, x45, x82, x51⟩, _⟩ := hR.2.2.2.2.1 (by omega)
  obtain ⟨x40, x79⟩ := hR.2.2.2.1 (Or.inr (Or.inr (by omega)))
  obtain ⟨_, ha, hh, h16, h24⟩ := hi.pu (by omega)
  have n60 := hi.1.1
  have hc := (hi.2.2.2.2.2.2.1.2.2.2.2.2.2.2.2 (by omega)).1
  have hw1 : wordS S l = endProofS S := by
    rw [word_key (by omega), (wh9.mp h9).2]
    unfold keyS
    rw [if_neg (by omega), if_neg (by omega), if_neg (by omega), if_neg (by omega), if_neg (by omega), if_pos (by omega), if_pos rfl]
  unfold f_M_finish_50
  rw [x51, if_pos (b01_ir _)]
  have hw2 : wordS S l = if S.gap = true then declareS S else if S.stk.length ≠ 1 then .error (-9) else if stR S 0 = S.crow then declareS S else .error (-10) := by
    rw [hw1]; unfold endProofS
    rw [if_neg (fun z => by rw [hin z.1] at z; cases z.2)]
  cases hg : S.gap with
  | true =>
    rw [if_neg (by decide)]
    exact ⟨_, rfl, Or.inr ⟨by rw [hw2, if_pos hg], rfl⟩⟩
  | false =>
    rw [if_neg (by rw [hg]; decide)] at hw2
    rw [if_pos (by decide), if_pos (by omega)]
    by_cases q1 : S.stk.length = 1
    · obtain ⟨e, he⟩ := ex_get (l := S.stk) (k := 0) (by omega)
      have hm := List.mem_of_getElem? he
      have e24 := h24 e hm
      obtain ⟨_, _, _, _, _, iSt, _⟩ := hi.2.2.2.2.2.2.2.1 (by omega)
      obtain ⟨w1, w2⟩ := x82 0 e he
      have e83 : rA g 83 0 = (e.1.length : Int) := w2
      have hstR : stR S 0 = e.1 := by unfold stR; rw [he]; rfl
      rw [if_neg (fun z => z q1), hstR] at hw2
      rw [if_pos (by omega), e83, if_pos (by omega), x40, if_pos (by have := hc.2.1; omega)]
      have bad : e.1 ≠ S.crow → ∃ g', ((f_M_fail_50 (-10) (rI g 49 5) g).bind fun g15 => some (gI g15 49 5 ((rI g15 49 5) + 1))) = some g' ∧ (MFin (rn ws b S ((j, l) :: ts)) g' ∨ (wordS S l = declareS S ∧ g' = gI g 49 5 ((rI g 49 5) + 1))) := by
        intro hne
        rw [if_neg hne] at hw2
        obtain ⟨g2, b1, b2, b3⟩ := m_bad (ws := ws) (b := b) (ts := ts) hw2 (by decide) hR.1 h6 h5
        rw [b1, Option.bind_some]
        exact ⟨_, rfl, Or.inl (b2.w _)⟩
      by_cases ql : e.1.length = S.crow.length
      · rw [if_pos (by omega)]
        have := m_fin1 (g := g) e.1 S.crow ql hc.2.1 (fun v hv => by have := ((iSt e hm).1.2.2.1 v hv).1; omega) (fun v hv => by have := (hc.2.2.1 v hv).1; omega) w1 x79 x40 S.crow.length 20000 0 (by omega) (by have := hc.2.1; omega)
        have this2 : l_M_finish_50 20000 0 1 0 g = _ := this
        rw [this2, List.drop_zero, List.drop_zero]
        by_cases qe : e.1 = S.crow
        · rw [if_pos qe] at hw2 ⊢
          exact ⟨_, rfl, Or.inr ⟨hw2, rfl⟩⟩
        · rw [if_neg qe]; exact bad qe
      · rw [if_neg (by omega)]
        have := m_fin0 (g := g) S.crow.length 0 19999 hc.2.1 (by omega) x40
        have this2 : l_M_finish_50 20000 0 0 0 g = _ := this
        rw [this2]
        exact bad (fun z => ql (by rw [z]))
    · rw [if_pos q1] at hw2
      obtain ⟨g2, b1, b2, b3⟩ := m_bad (ws := ws) (b := b) (ts := ts) hw2 (by decide) hR.1 h6 h5
      rw [if_neg (by omega), b1, Option.bind_some]
      exact ⟨_, rfl, Or.inl b2⟩
