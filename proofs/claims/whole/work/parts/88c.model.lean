/-! ===== the model: the labels listed ahead of the letters ===== -/
theorem hs_len (k : Nat) (x : Int64) : (hsOf k x).length ≤ k := by
  unfold hsOf
  have := List.length_filter_le (fun h => tb x h) (List.range k)
  rw [List.length_range] at this
  exact this
theorem m_mandL {g : G2} (a u : Nat) (L : List Nat) (ha : a < 40) (hl : L.length ≤ 40) (h : NdAt g a L) (h60 : u < 60 ∧ ∀ v ∈ L, v < 60) : ∀ (k m i : Nat), i + k = L.length → k < m → l_M_isMandatory_50 m 0 (a : Int) (u : Int) (i : Int) g = some (b01 (decide (u ∈ L.drop i)), g) := by
  have e70 : rA g 70 ((a : Nat) : Int) = (L.length : Int) := h.1
  intro k
  induction k with
  | zero =>
    intro m i hi hm
    obtain ⟨m, rfl⟩ : ∃ m', m = m' + 1 := ⟨m - 1, by omega⟩
    rw [s_M_isMandatory_50_0, List.drop_eq_nil_of_le (by omega)]
    unfold b_M_isMandatory_50_0
    rw [if_pos (by omega), if_pos (by omega), e70, if_pos (by omega), if_neg (by omega)]
    simp
  | succ k ih =>
    intro m i hi hm
    obtain ⟨m, rfl⟩ : ∃ m', m = m' + 1 := ⟨m - 1, by omega⟩
    obtain ⟨v, hv⟩ := ex_get (l := L) (k := i) (by omega)
    have e69 : rA g 69 ((40 * (a : Int)) + (i : Int)) = (v : Int) := by
      show g.2.2.1 69 ((40 * (a : Int)) + (i : Int)).toNat = _
      rw [show ((40 * (a : Int)) + (i : Int)).toNat = 40 * a + i by omega]; exact h.2 i v hv
    have := h60.2 v (List.mem_of_getElem? hv)
    have := h60.1
    rw [s_M_isMandatory_50_0, drop_eq hv]
    unfold b_M_isMandatory_50_0
    rw [if_pos (by omega), if_pos (by omega), e70, if_pos (by omega), if_pos (by omega), if_pos (by omega), e69, if_pos (by omega), if_pos (by omega)]
    by_cases q : v = u
    · rw [if_pos (by omega)]; simp [q]
    · rw [if_neg (by omega)]
      have := ih m (i + 1) (by omega) (by omega)
      rw [show ((i : Int) + 1) = ((i + 1 : Nat) : Int) from rfl, this]
      have q' : ¬ u = v := fun z => q z.symm
      simp [q']
theorem m_isMand {S : RSt} {g : G2} (hR : MRep S g) (hi : Iv S) (hs : 10 ≤ S.stage) (k : Nat) (hk : k < S.sms.length) : f_M_isMandatory_50 (S.ass.length : Int) (k : Int) g = some (b01 (tb S.cmand k), g) := by
  obtain ⟨⟨⟨xn, _⟩, _⟩, _⟩ := hR.2.2.2.2.1 hs
  obtain ⟨_, ha, _⟩ := hi.pu hs
  have m40 : S.sms.length < 40 := (hi.2.2.2.2.2.2.1.1 (by omega)).2.1
  have hl := hs_len S.sms.length S.cmand
  have := m_mandL (g := g) S.ass.length k (hsOf S.sms.length S.cmand) ha (by omega) xn ⟨by omega, fun v hv => by have := (mem_hsOf.mp hv).1; omega⟩ (hsOf S.sms.length S.cmand).length 20000 0 (by omega) (by omega)
  unfold f_M_isMandatory_50
  rw [show (0 : Int) = ((0 : Nat) : Int) from rfl, this, List.drop_zero]
  cases hb : tb S.cmand k with
  | true => rw [decide_eq_true (mem_hsOf.mpr ⟨hk, hb⟩)]
  | false => rw [decide_eq_false (fun z => by rw [(mem_hsOf.mp z).2] at hb; cases hb)]
/-- the labels are read, up to the letters -/
def MLst (ws : List (List Int)) (b : Bool) (S : RSt) (ts : List (Nat × List Int)) (g' : G2) : Prop := ∃ (S' : RSt) (ts' : List (Nat × List Int)), rn ws b S ts = rn ws b S' ts' ∧ MGo ws b S' ts' (gI (gI (gI g' 49 54 0) 49 55 0) 49 56 0) ∧ S'.stage = 13 ∧ S'.clab = S.clab ∧ S'.ass = S.ass ∧ ts'.length < ts.length ∧ rI g' 49 6 = 0 ∧ S'.ca = S.ca
theorem m_listedL {ws : List (List Int)} {b : Bool} : ∀ (ts : List (Nat × List Int)) (S : RSt) (g : G2) (m : Nat), MGo ws b S ts g → S.stage = 12 → S.ins = false ∧ S.beh = false → 5 * ts.length + 6 < m → ∃ g', l_M_readListed_50 m 0 (S.ass.length : Int) 0 g = some g' ∧ (MFin (rn ws b S ts) g' ∨ MLst ws b S ts g') := by
  intro ts
  induction ts with
  | nil =>
    intro S g m h hs hib hm
    obtain ⟨m, rfl⟩ : ∃ m', m = m' + 1 := ⟨m - 1, by omega⟩
    have h6 := h.2.2.2.2.2.1
    rcases m_needName h (by omega) with ⟨g', a1, a2, a3⟩ | ⟨j, l, ts', g', a0, _⟩
    · refine ⟨g', ?_, Or.inl a2⟩
      rw [s_M_readListed_50_0]
      unfold b_M_readListed_50_0
      rw [if_pos (by omega), if_pos h6, bd_some a1, if_pos (by decide), if_pos rfl]
    · cases a0
  | cons t ts ih =>
    intro S g m h hs hib hm
    rw [List.length_cons] at hm
    obtain ⟨m, rfl⟩ : ∃ m', m = m' + 5 := ⟨m - 5, by omega⟩
    have h6 := h.2.2.2.2.2.1
    have hi := h.2.2.1
    have n60 := hi.1.1
    have m40 : S.sms.length < 40 := (hi.2.2.2.2.2.2.1.1 (by omega)).2.1
    have l20 : S.lstd ≤ 20 := (hi.2.2.2.2.2.2.2.2.1 (by omega)).2.2.1
    have t3 : ∀ (p : Nat) (g2 : G2), l_M_readListed_50 (p + 1) 3 (S.ass.length : Int) 0 g2 = l_M_readListed_50 p 0 (S.ass.length : Int) 0 (gI g2 49 5 ((rI g2 49 5) + 1)) := by
      intro p g2
      rw [s_M_readListed_50_3]; rfl
    have fin3 : ∀ (p : Nat) (g2 : G2), MFin (rn ws b S (t :: ts)) g2 → ∃ g', l_M_readListed_50 (p + 2) 3 (S.ass.length : Int) 0 g2 = some g' ∧ (MFin (rn ws b S (t :: ts)) g' ∨ MLst ws b S (t :: ts) g') := by
      intro p g2 hf
      have hf' := hf.w ((rI g2 49 5) + 1)
      refine ⟨_, ?_, Or.inl hf'⟩
      rw [show p + 2 = (p + 1) + 1 by omega, t3, s_M_readListed_50_0]
      unfold b_M_readListed_50_0
      rw [if_pos hf'.ne.2, if_neg hf'.ne.1]
    rw [show m + 5 = (m + 4) + 1 by omega, s_M_readListed_50_0]
    unfold b_M_readListed_50_0
    rw [if_pos (by omega), if_pos h6]
    rcases m_needName h (by omega) with ⟨g', a1, a2, a3⟩ | ⟨j, l, ts', g1, a0, a1, a2, a3, a4, a4', a5, a6, a7, a8, a9, a10, a11⟩
    · rw [bd_some a1, if_pos (by decide), if_pos rfl]
      exact ⟨g', rfl, Or.inl a2⟩
    · injection a0 with a01 a02
      subst a02
      subst a01
      have hw1 : wordS S l = takeListedS S (cdOf l) := by
        rw [word_name a2 a3]
        unfold nameS
        rw [if_neg (by omega), if_neg (by omega), if_neg (by omega), if_neg (by omega), if_neg (by omega), if_neg (by omega), if_neg (by omega), if_neg (by omega), if_neg (by omega), if_neg (by omega), if_pos hs]
      rw [bd_some a1, if_pos (by decide), if_neg (by decide), bd_some (m_isWord a6 a4 a10 41 (by decide)), if_pos (b01_ir _)]
      have c41 := cd_one a4' a3 (n := 41) (by decide)
      obtain ⟨hK, hX, hD, hC, hP, hL⟩ := a7
      obtain ⟨p1, p2⟩ := hP (by omega)
      obtain ⟨x53, x88, x48, x84, _⟩ := hL (by omega)
      by_cases q41 : l = [41]
      · have hw : wordS S l = .ok (S.uStage 13) := by
          rw [hw1]; unfold takeListedS
          rw [if_pos (c41.mpr q41)]
        obtain ⟨y1, y2⟩ := iv_word hi h.2.2.2.1 hw
        rw [decide_eq_true q41, if_neg (by decide)]
        refine ⟨_, rfl, Or.inr ⟨S.uStage 13, ts, run_ok hw, ⟨a6, ?_, y1, y2, at_next (g := gI (gI (gI g1 49 54 0) 49 55 0) 49 56 0) a4 a11 a10, a8, a9⟩, rfl, rfl, rfl, by rw [List.length_cons]; omega, a8, rfl⟩⟩
        refine ⟨hK, hX, fun z => absurd z (by show ¬ 13 = 3; decide), fun _ => hC (Or.inr (Or.inr (by omega))), fun _ => ⟨p1, fun z => absurd z (by show ¬ 13 < 12; decide)⟩, fun _ => ⟨x53, x88, x48, x84, fun _ => ⟨?_, ?_, ?_⟩⟩⟩
        · show (0 : Int) = if S.ins = true then _ else _
          rw [hib.1, if_neg (by decide)]
        · show (0 : Int) = b01 S.ins
          rw [hib.1]; rfl
        · show (0 : Int) = b01 S.beh
          rw [hib.2]; rfl
      · have hw2 : wordS S l = (match usableS S (cdOf l) with | none => .error (-8) | some k => if tb S.cmand k = true then .error (-8) else if 20 ≤ S.lstd then .error (-7) else .ok ((S.uRefs (S.refs ++ [k])).uLstd (S.lstd + 1))) := by
          rw [hw1]; unfold takeListedS
          rw [if_neg (fun z => q41 (c41.mp z))]
          rfl
        rw [decide_eq_false q41, if_pos (by decide)]
        rcases m_lookUp ⟨hK, hX, hD, hC, hP, hL⟩ hi a6 a4 a10 with ⟨u1, u2⟩ | ⟨k, u1, u2, u3⟩
        · have hw : wordS S l = .error (-8) := by rw [hw2, u1]
          obtain ⟨g2, b1, b2, b3⟩ := m_bad (ws := ws) (b := b) (ts := ts) hw (by decide) hK a8 a10
          rw [u2, b1, Option.bind_some, bd_some (show (some ((-1 : Int), g2) : Option (Int × G2)) = some (-1, g2) from rfl), if_pos (by decide), if_pos (by decide), show m + 4 = (m + 3) + 1 by omega, s_M_readListed_50_1]
          unfold b_M_readListed_50_1
          rw [if_pos (by decide), if_pos (by decide), show m + 3 = (m + 2) + 1 by omega, s_M_readListed_50_2]
          unfold b_M_readListed_50_2
          rw [if_pos (by decide), if_pos (by decide)]
          exact fin3 m g2 b2
        · have hm := m_isMand ⟨hK, hX, hD, hC, hP, hL⟩ hi (by omega) k u2
          rw [u1] at hw2
          have hw3 : wordS S l = if tb S.cmand k = true then .error (-8) else if 20 ≤ S.lstd then .error (-7) else .ok ((S.uRefs (S.refs ++ [k])).uLstd (S.lstd + 1)) := hw2
          rw [bd_some u3, if_pos (by omega), if_neg (by omega), bd_some hm, if_pos (b01_ir _)]
          cases hb : tb S.cmand k with
          | true =>
            rw [if_pos hb] at hw3
            obtain ⟨g2, b1, b2, b3⟩ := m_bad (ws := ws) (b := b) (ts := ts) hw3 (by decide) hK a8 a10
            rw [if_neg (by decide), b1, Option.bind_some]
            exact fin3 (m + 2) g2 b2
          | false =>
            rw [if_neg (by rw [hb]; decide)] at hw3
            rw [if_pos (by decide), show m + 4 = (m + 3) + 1 by omega, s_M_readListed_50_1]
            unfold b_M_readListed_50_1
            rw [if_pos (by omega), if_neg (by omega), x53, if_pos (by omega)]
            by_cases q20 : 20 ≤ S.lstd
            · rw [if_pos q20] at hw3
              obtain ⟨g2, b1, b2, b3⟩ := m_bad (ws := ws) (b := b) (ts := ts) hw3 (by decide) hK a8 a10
              rw [if_pos (by omega), b1, Option.bind_some]
              exact fin3 (m + 1) g2 b2
            · rw [if_neg q20] at hw3
              obtain ⟨y1, y2⟩ := iv_word hi h.2.2.2.1 hw3
              rw [if_neg (by omega), show m + 3 = (m + 2) + 1 by omega, s_M_readListed_50_2]
              unfold b_M_readListed_50_2
              rw [if_pos (by omega), if_neg (by omega), x53, if_pos (by omega), show m + 2 = (m + 1) + 1 by omega, t3]
              have hr1 : S.refs.length = (hsOf S.sms.length S.cmand).length + S.lstd := (hi.2.2.2.2.2.2.2.2.1 (by omega)).1
              have hR : MRep ((S.uRefs (S.refs ++ [k])).uLstd (S.lstd + 1)) (gI (gA g1 88 (S.lstd : Int) (k : Int)) 49 53 ((S.lstd : Int) + 1)) := by
                refine ⟨hK, hX, hD, hC, hP, fun _ => ⟨rfl, fun i v hv => ?_, x48, x84, fun z => ?_⟩⟩
                · show am_upd (g1.2.2.1 88) S.lstd (k : Int) i = (v : Int)
                  have hv : ((S.refs ++ [k]).drop (hsOf S.sms.length S.cmand).length)[i]? = some v := hv
                  rw [List.drop_append_of_le_length (by omega)] at hv
                  have hdl : (S.refs.drop (hsOf S.sms.length S.cmand).length).length = S.lstd := by rw [List.length_drop]; omega
                  rcases ap_get hv with ⟨w1, w2⟩ | ⟨w1, w2⟩
                  · rw [am_updN (by omega)]; exact x88 i v w2
                  · rw [w1, hdl, updN_at, w2]
                · have z2 : S.stage = 13 := z
                  omega
              obtain ⟨g', c1, c2⟩ := ih _ (gI (gI (gA g1 88 (S.lstd : Int) (k : Int)) 49 53 ((S.lstd : Int) + 1)) 49 5 ((rI g1 49 5) + 1)) (m + 1) ⟨a6, hR.sf (SF.i (Or.inl rfl)), y1, y2, at_next (g := gI (gA g1 88 (S.lstd : Int) (k : Int)) 49 53 ((S.lstd : Int) + 1)) a4 a11 a10, a8, a9⟩ hs hib (by omega)
              refine ⟨g', c1, ?_⟩
              rcases c2 with c2 | ⟨S2, ts2, d1, d2, d3, d4, d5, d6, d7, d8⟩
              · left; rw [run_ok hw3]; exact c2
              · right; exact ⟨S2, ts2, by rw [run_ok hw3]; exact d1, d2, d3, d4, d5, by rw [List.length_cons]; omega, d7, d8⟩
