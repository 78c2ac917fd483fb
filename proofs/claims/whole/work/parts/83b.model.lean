theorem nrm_eq {u v x y : Nat} : nrm (u, v) = nrm (x, y) ↔ (u = x ∧ v = y) ∨ (u = y ∧ v = x) := by
  unfold nrm
  constructor
  · intro h
    split at h <;> split at h <;> (injection h with h1 h2; first | exact Or.inl ⟨h1, h2⟩ | exact Or.inr ⟨h1, h2⟩ | exact Or.inr ⟨h2, h1⟩ | exact Or.inl ⟨h2, h1⟩ | (simp only at *; omega))
  · rintro (⟨h1, h2⟩ | ⟨h1, h2⟩)
    · rw [h1, h2]
    · subst h1; subst h2
      split <;> split <;> simp only at * <;> first | rfl | omega | (congr 1 <;> omega)
/-- phase 6: the pairs -/
theorem m_fn6 {S : RSt} (hi : Iv S) (a : Nat) (ha : a < 40) (g0 : G2) (hO : OC S g0 (fun v => tb (mV S) v)) (P : List (Nat × Nat × Nat)) (hP : rI g0 49 23 = (P.length : Int) ∧ ∀ (i : Nat) (p : Nat × Nat × Nat), P[i]? = some p → g0.2.2.1 65 i = (p.1 : Int) ∧ g0.2.2.1 66 i = (p.2.1 : Int)) (hP40 : P.length ≤ 40) (hPn : ∀ p ∈ P, p.1 < S.nms.length ∧ p.2.1 < S.nms.length) : ∀ (k m i : Nat) (g : G2) (L : List (Nat × Nat)), i + k = P.length → 3 * k + 1 < m → KK (fun r => r ≠ 71 ∧ r ≠ 72 ∧ r ≠ 73) g0 g → g.2.2.1 73 a = (L.length : Int) → (∀ (u : Nat) (p : Nat × Nat), L[u]? = some p → g.2.2.1 71 (40 * a + u) = (p.1 : Int) ∧ g.2.2.1 72 (40 * a + u) = (p.2 : Int)) → (L.map nrm).Nodup → L.length ≤ i → (∀ p ∈ L, p.1 < 60 ∧ p.2 < 60) → (∀ p, p ∈ L.map nrm ↔ ∃ q ∈ P.take i, nrm (q.1, q.2.1) = p ∧ tb (mV S) q.1 = true ∧ tb (mV S) q.2.1 = true) → (∀ p : Nat, p < 40 * a → g.2.2.1 71 p = g0.2.2.1 71 p ∧ g.2.2.1 72 p = g0.2.2.1 72 p) → (∀ p : Nat, p ≠ a → g.2.2.1 73 p = g0.2.2.1 73 p) →
    ∃ (g' : G2) (L' : List (Nat × Nat)), l_M_findNeeds_50 m 6 (a : Int) (i : Int) g = some g' ∧ KK (fun r => r ≠ 71 ∧ r ≠ 72 ∧ r ≠ 73) g0 g' ∧ g'.2.2.1 73 a = (L'.length : Int) ∧ (∀ (u : Nat) (p : Nat × Nat), L'[u]? = some p → g'.2.2.1 71 (40 * a + u) = (p.1 : Int) ∧ g'.2.2.1 72 (40 * a + u) = (p.2 : Int)) ∧ (L'.map nrm).Nodup ∧ (∀ p, p ∈ L'.map nrm ↔ ∃ q ∈ P, nrm (q.1, q.2.1) = p ∧ tb (mV S) q.1 = true ∧ tb (mV S) q.2.1 = true) ∧ (∀ p : Nat, p < 40 * a → g'.2.2.1 71 p = g0.2.2.1 71 p ∧ g'.2.2.1 72 p = g0.2.2.1 72 p) ∧ ∀ p : Nat, p ≠ a → g'.2.2.1 73 p = g0.2.2.1 73 p := by
  have n60 := hi.1.1
  intro k
  induction k with
  | zero =>
    intro m i g L hik hm hk h73 h71 hnd hLi hL60 hmem hp1 hp2
    obtain ⟨m, rfl⟩ : ∃ m', m = m' + 1 := ⟨m - 1, by omega⟩
    have e23 : rI g 49 23 = (P.length : Int) := by rw [show rI g 49 23 = rI g0 49 23 from congrFun (hk 49 (by decide)).1 23]; exact hP.1
    rw [List.take_of_length_le (by omega)] at hmem
    refine ⟨g, L, ?_, hk, h73, h71, hnd, hmem, hp1, hp2⟩
    rw [s_M_findNeeds_50_6]
    unfold b_M_findNeeds_50_6
    rw [if_pos (by omega), if_pos (by omega), if_neg (by omega)]
  | succ k ih =>
    intro m i g L hik hm hk h73 h71 hnd hLi hL60 hmem hp1 hp2
    obtain ⟨m, rfl⟩ : ∃ m', m = m' + 3 := ⟨m - 3, by omega⟩
    obtain ⟨q, hq⟩ := ex_get (l := P) (k := i) (by omega)
    obtain ⟨qn1, qn2⟩ := hPn q (List.mem_of_getElem? hq)
    obtain ⟨w1, w2⟩ := hP.2 i q hq
    have e23 : rI g 49 23 = (P.length : Int) := by rw [show rI g 49 23 = rI g0 49 23 from congrFun (hk 49 (by decide)).1 23]; exact hP.1
    have e65 : rA g 65 ((i : Nat) : Int) = (q.1 : Int) := by show g.2.2.1 65 i = _; rw [(hk 65 (by decide)).2.2.1]; exact w1
    have e66 : rA g 66 ((i : Nat) : Int) = (q.2.1 : Int) := by show g.2.2.1 66 i = _; rw [(hk 66 (by decide)).2.2.1]; exact w2
    have e80 : ∀ v : Nat, v < S.nms.length → rA g 80 ((v : Nat) : Int) = b01 (tb (mV S) v) := fun v hv => by show g.2.2.1 80 v = _; rw [(hk 80 (by decide)).2.2.1]; exact hO v hv
    have t8 : ∀ (p : Nat) (gg : G2), l_M_findNeeds_50 (p + 1) 8 (a : Int) (i : Int) gg = l_M_findNeeds_50 p 6 (a : Int) ((i + 1 : Nat) : Int) gg := fun p gg => by
      rw [s_M_findNeeds_50_8]
      rfl
    have t7 : ∀ (p : Nat) (gg : G2), l_M_findNeeds_50 (p + 2) 7 (a : Int) (i : Int) gg = l_M_findNeeds_50 p 6 (a : Int) ((i + 1 : Nat) : Int) gg := fun p gg => by
      rw [show p + 2 = (p + 1) + 1 by omega, s_M_findNeeds_50_7]
      have : b_M_findNeeds_50_7 (l_M_findNeeds_50 (p + 1)) (a : Int) (i : Int) gg = l_M_findNeeds_50 (p + 1) 8 (a : Int) (i : Int) gg := rfl
      rw [this, t8]
    have tk := take_succ' hq
    -- nothing is added
    have skip : ∀ p : Nat, 3 * k + 1 < p → ((∃ x ∈ L, nrm x = nrm (q.1, q.2.1)) ∨ ¬ (tb (mV S) q.1 = true ∧ tb (mV S) q.2.1 = true)) → ∃ (g' : G2) (L' : List (Nat × Nat)), l_M_findNeeds_50 p 6 (a : Int) ((i + 1 : Nat) : Int) g = some g' ∧ KK (fun r => r ≠ 71 ∧ r ≠ 72 ∧ r ≠ 73) g0 g' ∧ g'.2.2.1 73 a = (L'.length : Int) ∧ (∀ (u : Nat) (p : Nat × Nat), L'[u]? = some p → g'.2.2.1 71 (40 * a + u) = (p.1 : Int) ∧ g'.2.2.1 72 (40 * a + u) = (p.2 : Int)) ∧ (L'.map nrm).Nodup ∧ (∀ p, p ∈ L'.map nrm ↔ ∃ q ∈ P, nrm (q.1, q.2.1) = p ∧ tb (mV S) q.1 = true ∧ tb (mV S) q.2.1 = true) ∧ (∀ p : Nat, p < 40 * a → g'.2.2.1 71 p = g0.2.2.1 71 p ∧ g'.2.2.1 72 p = g0.2.2.1 72 p) ∧ ∀ p : Nat, p ≠ a → g'.2.2.1 73 p = g0.2.2.1 73 p := by
      intro p hp hc
      refine ih p (i + 1) g L (by omega) hp hk h73 h71 hnd (by omega) hL60 (fun x => ?_) hp1 hp2
      rw [hmem x, tk]
      constructor
      · rintro ⟨z, z1, z2⟩; exact ⟨z, List.mem_append_left _ z1, z2⟩
      · rintro ⟨z, z1, z2, z3⟩
        rcases List.mem_append.mp z1 with z1 | z1
        · exact ⟨z, z1, z2, z3⟩
        · rw [List.mem_singleton] at z1
          rw [z1] at z2 z3
          rcases hc with ⟨y, y1, y2⟩ | hc
          · rw [← z2, ← y2]
            exact (hmem (nrm y)).mp (List.mem_map.mpr ⟨y, y1, rfl⟩)
          · exact absurd z3 hc
    rw [show m + 3 = (m + 2) + 1 by omega, s_M_findNeeds_50_6]
    unfold b_M_findNeeds_50_6
    rw [if_pos (by omega), if_pos (by omega), if_pos (by omega), if_pos (by omega), e65, if_pos (by omega), e80 _ qn1, if_pos (b01_ir _)]
    cases hV1 : tb (mV S) q.1 with
    | false =>
      rw [if_pos (by decide), t7]
      exact skip m (by omega) (Or.inr (fun z => by rw [hV1] at z; exact absurd z.1 (by decide)))
    | true =>
      rw [if_neg (by decide), e66, if_pos (by omega), e80 _ qn2, if_pos (b01_ir _)]
      cases hV2 : tb (mV S) q.2.1 with
      | false =>
        rw [if_pos (by decide), t7]
        exact skip m (by omega) (Or.inr (fun z => by rw [hV2] at z; exact absurd z.2 (by decide)))
      | true =>
        rw [if_neg (by decide)]
        have hir : ∀ u : Nat, u < L.length → ir (g.2.2.1 71 (40 * a + u)) ∧ ir (g.2.2.1 72 (40 * a + u)) := fun u hu => by
          obtain ⟨p, hp⟩ := ex_get hu
          obtain ⟨y1, y2⟩ := h71 u p hp
          have := hL60 p (List.mem_of_getElem? hp)
          rw [y1, y2]
          exact ⟨by omega, by omega⟩
        have hne := e_needed g a L.length ha (by omega) h73 q.1 q.2.1 (by omega) (by omega) hir L.length 20000 0 (by omega) (by omega) _ rfl
        have hany : anyN (mpB g a q.1 q.2.1) L.length 0 = true ↔ ∃ x ∈ L, nrm x = nrm (q.1, q.2.1) := by
          rw [anyN_iff]
          constructor
          · rintro ⟨u, _, u2, u3⟩
            obtain ⟨p, hp⟩ := ex_get (l := L) (k := u) (by omega)
            obtain ⟨y1, y2⟩ := h71 u p hp
            unfold mpB at u3
            rw [y1, y2] at u3
            have u4 := of_decide_eq_true u3
            refine ⟨p, List.mem_of_getElem? hp, ?_⟩
            rw [show p = (p.1, p.2) from rfl, nrm_eq]
            omega
          · rintro ⟨p, p1, p2⟩
            obtain ⟨u, hu⟩ := List.getElem?_of_mem p1
            obtain ⟨y1, y2⟩ := h71 u p hu
            refine ⟨u, Nat.zero_le _, by have := lt_get hu; omega, ?_⟩
            unfold mpB
            rw [y1, y2]
            rw [show p = (p.1, p.2) from rfl, nrm_eq] at p2
            exact decide_eq_true (by omega)
        have hne' : f_M_isNeeded_50 (a : Int) (q.1 : Int) (q.2.1 : Int) g = some ((if anyN (mpB g a q.1 q.2.1) L.length 0 = true then 1 else 0), g) := by
          unfold f_M_isNeeded_50
          rw [show (40 * (a : Int)) = ((40 * a + 0 : Nat) : Int) by omega]
          exact hne
        rw [bd_some hne']
        by_cases hex : ∃ x ∈ L, nrm x = nrm (q.1, q.2.1)
        · rw [if_pos (hany.mpr hex), if_pos (by decide), if_neg (by decide), show m + 2 = (m + 1) + 1 by omega, t8]
          exact skip (m + 1) (by omega) (Or.inl hex)
        · have e73 : rA g 73 ((a : Nat) : Int) = (L.length : Int) := h73
          have ep : ((40 * (a : Int)) + (L.length : Int)).toNat = 40 * a + L.length := by omega
          rw [if_neg (fun z => hex (hany.mp z)), if_pos (by decide), if_pos rfl, if_pos (by omega), e73, if_pos (by omega), e65, e66, show m + 2 = (m + 1) + 1 by omega, t8]
          refine ih (m + 1) (i + 1) _ (L ++ [(q.1, q.2.1)]) (by omega) (by omega) (hk.tr (KK.a (by decide) (KK.a (by decide) (KK.a (by decide) KK.rf)))) ?_ (fun u p hp => ?_) ?_ ?_ (fun p hp => ?_) (fun x => ?_) (fun p hp => ?_) (fun p hp => ?_)
          · show am_upd (g.2.2.1 73) a _ a = _
            rw [updN_at]; exact len1 _ _
          · show am_upd (g.2.2.1 71) ((40 * (a : Int)) + (L.length : Int)).toNat _ (40 * a + u) = _ ∧ am_upd (g.2.2.1 72) ((40 * (a : Int)) + (L.length : Int)).toNat _ (40 * a + u) = _
            rw [ep]
            rcases ap_get hp with ⟨y1, y2⟩ | ⟨y1, y2⟩
            · rw [am_updN (by omega), am_updN (by omega)]; exact h71 u p y2
            · subst y1; subst y2; rw [updN_at, updN_at]; exact ⟨rfl, rfl⟩
          · rw [List.map_append, List.map_cons, List.map_nil, List.nodup_append]
            refine ⟨hnd, by simp, fun x hx y hy hxy => ?_⟩
            rw [List.mem_singleton] at hy
            rw [List.mem_map] at hx
            obtain ⟨z, z1, z2⟩ := hx
            exact hex ⟨z, z1, by rw [z2, hxy, hy]⟩
          · rw [List.length_append]; show L.length + 1 ≤ i + 1; omega
          · rw [List.mem_append, List.mem_singleton] at hp
            rcases hp with hp | hp
            · exact hL60 p hp
            · rw [hp]; exact ⟨by show q.1 < 60; omega, by show q.2.1 < 60; omega⟩
          · rw [List.map_append, List.mem_append, hmem x, tk]
            constructor
            · rintro (⟨z, z1, z2⟩ | z)
              · exact ⟨z, List.mem_append_left _ z1, z2⟩
              · have z2 : x = nrm (q.1, q.2.1) := by simpa using z
                exact ⟨q, by simp, z2.symm, hV1, hV2⟩
            · rintro ⟨z, z1, z2, z3⟩
              rcases List.mem_append.mp z1 with z1 | z1
              · exact Or.inl ⟨z, z1, z2, z3⟩
              · rw [List.mem_singleton] at z1
                rw [z1] at z2
                exact Or.inr (by simp [z2])
          · show am_upd (g.2.2.1 71) ((40 * (a : Int)) + (L.length : Int)).toNat _ p = _ ∧ am_upd (g.2.2.1 72) ((40 * (a : Int)) + (L.length : Int)).toNat _ p = _
            rw [ep, am_updN (by omega), am_updN (by omega)]; exact hp1 p hp
          · show am_upd (g.2.2.1 73) a _ p = _
            rw [am_updN hp]; exact hp2 p hp
theorem m_fn0 {S : RSt} (hi : Iv S) (a : Nat) : ∀ (k m i : Nat) (g : G2), i + k = S.nms.length → k < m → rI g 49 8 = (S.nms.length : Int) → (∀ v, v < i → g.2.2.1 80 v = 0) → ∃ (m' : Nat) (g' : G2), m = m' + k + 1 ∧ l_M_findNeeds_50 m 0 (a : Int) (i : Int) g = (f_M_mark_50 0 (rI g' 49 40) 1 g').bind (fun g5 => l_M_findNeeds_50 m' 1 (a : Int) 0 g5) ∧ KK (fun r => r ≠ 80) g g' ∧ ∀ v, v < S.nms.length → g'.2.2.1 80 v = 0 := by
  have n60 := hi.1.1
  intro k
  induction k with
  | zero =>
    intro m i g hik hm h8 h80
    obtain ⟨m, rfl⟩ : ∃ m', m = m' + 1 := ⟨m - 1, by omega⟩
    refine ⟨m, g, rfl, ?_, KK.rf, fun v hv => h80 v (by omega)⟩
    rw [s_M_findNeeds_50_0]
    unfold b_M_findNeeds_50_0
    rw [if_pos (by omega), if_pos (by omega), if_neg (by omega)]
  | succ k ih =>
    intro m i g hik hm h8 h80
    obtain ⟨m, rfl⟩ : ∃ m', m = m' + 1 := ⟨m - 1, by omega⟩
    obtain ⟨m', g', a1, a2, a3, a4⟩ := ih m (i + 1) (gA g 80 (i : Int) 0) (by omega) (by omega) h8 (fun v hv => by
      show am_upd (g.2.2.1 80) i 0 v = 0
      by_cases q : v = i
      · rw [q, updN_at]
      · rw [am_updN q]; exact h80 v (by omega))
    refine ⟨m', g', by omega, ?_, (KK.a (by decide) KK.rf).tr a3, a4⟩
    rw [s_M_findNeeds_50_0]
    unfold b_M_findNeeds_50_0
    rw [if_pos (by omega), if_pos (by omega), if_pos (by omega), if_pos (by omega)]
    exact a2
/-- but for what an assertion in the making writes nothing differs -/
def SA (a : Nat) (g g' : G2) : Prop := KK (fun r => r ≠ 69 ∧ r ≠ 70 ∧ r ≠ 71 ∧ r ≠ 72 ∧ r ≠ 73 ∧ r ≠ 80) g g' ∧ (∀ p : Nat, p < 40 * a → g'.2.2.1 69 p = g.2.2.1 69 p ∧ g'.2.2.1 71 p = g.2.2.1 71 p ∧ g'.2.2.1 72 p = g.2.2.1 72 p) ∧ ∀ p : Nat, p ≠ a → g'.2.2.1 70 p = g.2.2.1 70 p ∧ g'.2.2.1 73 p = g.2.2.1 73 p
theorem m_findNeeds {S : RSt} {g : G2} (hR : MRep S g) (hi : Iv S) (hs : S.stage = 9) : ∃ g', f_M_findNeeds_50 g = some g' ∧ SA S.ass.length g g' ∧ NdAt g' S.ass.length (hsOf S.sms.length (mM S)) ∧ PrAt g' S.ass.length (pairsOf S.nms.length (apOf S.prs) (mV S)) := by
  obtain ⟨⟨hN, hS, hA⟩, ⟨x1, xv, xh, ⟨xp, P, xp1, xp2, xp3, xp4⟩⟩, _, xc, _, _⟩ := hR
  have n60 := hi.1.1
  have m40 : S.sms.length < 40 := (hi.2.2.2.2.2.2.1.1 (by omega)).2.1
  have ha : S.ass.length < 40 := by have := hi.1.2.2.1; omega
  have p40 : S.prs.length ≤ 40 := hi.1.2.2.2.2.1
  obtain ⟨x40, x79⟩ := xc (Or.inr (Or.inr (by omega)))
  obtain ⟨⟨r1, r2, r3, r4⟩, r5⟩ := hi.2.2.2.2.2.2.1.2.2.2.2.2.2.2.2 (by omega)
  have hmk := (hi.2.2.2.2.2.2.1.1 (by omega)).2.2.2.1
  obtain ⟨m1, g1, a1, a2, a3, a4⟩ := m_fn0 hi S.ass.length S.nms.length 20000 0 g (by omega) (by omega) hN.1 (fun v hv => by omega)
  have e40 : rI g1 49 40 = (S.crow.length : Int) := by rw [show rI g1 49 40 = rI g 49 40 from congrFun (a3 49 (by decide)).1 40]; exact x40
  obtain ⟨g2, b1, b2, b3⟩ := m_markN hi S.crow (fun v hv => (r3 v hv).1) r2 S.crow.length 20000 0 g1 (fun _ => false) (by omega) (by omega) (hN.kk a3 (by decide)) (by rw [(a3 79 (by decide)).2.2.1]; exact x79) (fun v hv => a4 v hv)
  have b1' : f_M_mark_50 0 (S.crow.length : Int) 1 g1 = some g2 := b1
  have k2 := a3.tr b2
  obtain ⟨m3, g3, c1, c2, c3, c4⟩ := m_fn1 hi S.ass.length (by omega) g hN hS xh S.sms.length m1 0 g2 (by omega) (by omega) k2 (oc_congr b3 (fun v hv => by
    rw [List.drop_zero, List.take_zero]
    show (false || _) = tb S.cvs v
    rw [Bool.false_or, mk_bool hmk (by omega)]))
  have hS3 : MSt S g3 := by
    unfold MSt rI at *
    rw [(c3 49 (by decide)).1, (c3 58 (by decide)).2.2.1, (c3 59 (by decide)).2.2.1, (c3 61 (by decide)).2.2.1, (c3 60 (by decide)).2.2.1, (c3 64 (by decide)).2.2.1]; exact hS
  have hH3 : MH S g3 := by
    unfold MH at *
    rw [(c3 62 (by decide)).2.2.1, (c3 63 (by decide)).2.2.1]; exact xh
  obtain ⟨m4, g4, d1, d2, d3, d4, d5, d6⟩ := m_fn3 hi S.ass.length ha g3 hS3 hH3 c4 S.sms.length m3 0 (gA g3 70 (S.ass.length : Int) 0) (by omega) (by omega) (KK.a (by decide) KK.rf) ⟨updN_at _ _ _, fun q h hq => by
    have hq2 : ([] : List Nat)[q]? = some h := hq
    simp at hq2⟩ (fun _ _ => rfl) (fun p hp => am_updN hp)
  have k34 : KK (fun r => r ≠ 69 ∧ r ≠ 70) g3 g4 := d3
  have hPn : ∀ p ∈ P, p.1 < S.nms.length ∧ p.2.1 < S.nms.length := fun p hp => by
    have h1 : (p.1, p.2.1) ∈ S.prs := (xp3 p.1 p.2.1).mpr ⟨p.2.2, hp⟩
    have := hi.2.2.2.2.1 _ h1
    exact ⟨this.2.1.1, this.2.2.1⟩
  obtain ⟨g5, L, e1, e2, e3, e4, e5, e6, e7, e8⟩ := m_fn6 hi S.ass.length ha g4 (fun v hv => by rw [(k34 80 (by decide)).2.2.1]; exact c4 v hv) P ⟨by
      rw [show rI g4 49 23 = rI g3 49 23 from congrFun (k34 49 (by decide)).1 23, show rI g3 49 23 = rI g 49 23 from congrFun (c3 49 (by decide)).1 23, xp, xp1], fun i p hp => by
      rw [(k34 65 (by decide)).2.2.1, (k34 66 (by decide)).2.2.1, (c3 65 (by decide)).2.2.1, (c3 66 (by decide)).2.2.1]
      exact ⟨(xp2 i p hp).1, (xp2 i p hp).2.1⟩⟩ (by omega) hPn P.length m4 0 (gA g4 73 (S.ass.length : Int) 0) [] (by omega) (by omega) (KK.a (by decide) KK.rf) (updN_at _ _ _) (fun u p hp => by simp at hp) (by simp) (Nat.le_refl 0) (fun p hp => by cases hp) (fun p => by simp) (fun _ _ => ⟨rfl, rfl⟩) (fun p hp => am_updN hp)
  refine ⟨g5, ?_, ⟨?_, fun p hp => ?_, fun p hp => ?_⟩, ?_, ⟨L, e3, e4, e5, fun p => ?_⟩⟩
  · unfold f_M_findNeeds_50
    rw [hA.1]
    have a2' : l_M_findNeeds_50 20000 0 (S.ass.length : Int) 0 g = (f_M_mark_50 0 (rI g1 49 40) 1 g1).bind (fun g5 => l_M_findNeeds_50 m1 1 (S.ass.length : Int) 0 g5) := a2
    have c2' : l_M_findNeeds_50 m1 1 (S.ass.length : Int) 0 g2 = l_M_findNeeds_50 m3 3 (S.ass.length : Int) 0 (gA g3 70 (S.ass.length : Int) 0) := c2
    have d2' : l_M_findNeeds_50 m3 3 (S.ass.length : Int) 0 (gA g3 70 (S.ass.length : Int) 0) = l_M_findNeeds_50 m4 6 (S.ass.length : Int) 0 (gA g4 73 (S.ass.length : Int) 0) := d2
    have e1' : l_M_findNeeds_50 m4 6 (S.ass.length : Int) 0 (gA g4 73 (S.ass.length : Int) 0) = some g5 := e1
    rw [a2', e40, b1', Option.bind_some, c2', d2', e1']
  · exact (c3.mono (fun r hr => hr.2.2.2.2.2)).tr ((k34.mono (fun r hr => ⟨hr.1, hr.2.1⟩)).tr (e2.mono (fun r hr => ⟨hr.2.2.1, hr.2.2.2.1, hr.2.2.2.2.1⟩)))
  · refine ⟨?_, ?_, ?_⟩
    · rw [(e2 69 (by decide)).2.2.1, d5 p hp, (c3 69 (by decide)).2.2.1]
    · rw [(e7 p hp).1, (k34 71 (by decide)).2.2.1, (c3 71 (by decide)).2.2.1]
    · rw [(e7 p hp).2, (k34 72 (by decide)).2.2.1, (c3 72 (by decide)).2.2.1]
  · refine ⟨?_, ?_⟩
    · rw [(e2 70 (by decide)).2.2.1, d6 p hp, (c3 70 (by decide)).2.2.1]
    · rw [e8 p hp, (k34 73 (by decide)).2.2.1, (c3 73 (by decide)).2.2.1]
  · obtain ⟨y1, y2⟩ := d4
    refine ⟨?_, fun i h hh => ?_⟩
    · rw [(e2 70 (by decide)).2.2.1]; exact y1
    · rw [(e2 69 (by decide)).2.2.1]; exact y2 i h hh
  · rw [e6 p, mem_pairsOf]
    have hap := ap_iff S.prs (prs60 hi)
    constructor
    · rintro ⟨q, q1, q2, q3, q4⟩
      have h1 : (q.1, q.2.1) ∈ S.prs := (xp3 q.1 q.2.1).mpr ⟨q.2.2, q1⟩
      obtain ⟨y1, ⟨y2, y3⟩, y4, y5⟩ := hi.2.2.2.2.1 _ h1
      have y1' : q.1 ≠ q.2.1 := y1
      have y2' : q.1 < S.nms.length := y2
      have y4' : q.2.1 < S.nms.length := y4
      rw [← q2]
      unfold nrm
      by_cases hlt : q.1 < q.2.1
      · rw [if_pos hlt]
        exact ⟨y2', y4', hlt, q3, q4, (hap q.1 q.2.1 (by omega) (by omega)).mpr (Or.inl h1)⟩
      · rw [if_neg hlt]
        exact ⟨y4', y2', by show q.2.1 < q.1; omega, q4, q3, (hap q.2.1 q.1 (by omega) (by omega)).mpr (Or.inr h1)⟩
    · rintro ⟨y1, y2, y3, y4, y5, y6⟩
      rcases (hap p.1 p.2 (by omega) (by omega)).mp y6 with z | z
      · obtain ⟨w, hw⟩ := (xp3 p.1 p.2).mp z
        exact ⟨(p.1, p.2, w), hw, by unfold nrm; rw [if_pos y3], y4, y5⟩
      · obtain ⟨w, hw⟩ := (xp3 p.2 p.1).mp z
        exact ⟨(p.2, p.1, w), hw, by unfold nrm; rw [if_neg (by show ¬ p.2 < p.1; omega)], y5, y4⟩
theorem m_beginL (a : Nat) (ha : a < 40) : ∀ (k m i : Nat) (g : G2), i + k = 40 → k < m → ∃ g', l_M_begin_50 m 0 (a : Int) (i : Int) g = some (gI (gI (gI g' 49 45 0) 49 48 0) 49 51 0) ∧ KK (fun r => r ≠ 76) g g' ∧ ∀ p : Nat, g'.2.2.1 76 p = if 40 * a + i ≤ p ∧ p < 40 * a + 40 then 0 else g.2.2.1 76 p := by
  intro k
  induction k with
  | zero =>
    intro m i g hi hm
    obtain ⟨m, rfl⟩ : ∃ m', m = m' + 1 := ⟨m - 1, by omega⟩
    refine ⟨g, ?_, KK.rf, fun p => by rw [if_neg (by omega)]⟩
    rw [s_M_begin_50_0]
    unfold b_M_begin_50_0
    rw [if_pos (by omega), if_neg (by omega)]
  | succ k ih =>
    intro m i g hi hm
    obtain ⟨m, rfl⟩ : ∃ m', m = m' + 1 := ⟨m - 1, by omega⟩
    obtain ⟨g', a1, a2, a3⟩ := ih m (i + 1) (gA g 76 ((40 * (a : Int)) + i) 0) (by omega) (by omega)
    refine ⟨g', ?_, (KK.a (by decide) KK.rf).tr a2, fun p => ?_⟩
    · rw [s_M_begin_50_0]
      unfold b_M_begin_50_0
      rw [if_pos (by omega), if_pos (by omega), if_pos (by omega)]
      exact a1
    · rw [a3 p]
      show (if _ then 0 else am_upd (g.2.2.1 76) ((40 * (a : Int)) + (i : Int)).toNat 0 p) = _
      rw [show ((40 * (a : Int)) + (i : Int)).toNat = 40 * a + i by omega]
      unfold am_upd
      by_cases q : p = 40 * a + i
      · rw [if_neg (by omega), if_pos q, if_pos (by omega)]
      · rw [if_neg q]
        by_cases q2 : 40 * a + (i + 1) ≤ p ∧ p < 40 * a + 40
        · rw [if_pos q2, if_pos (by omega)]
        · rw [if_neg q2, if_neg (by omega)]
