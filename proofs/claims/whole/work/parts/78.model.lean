/-! ===== the model: $d ===== -/
theorem m_isConst {S : RSt} {g : G2} (h : MN S g) (hi : Iv S) (c : Int64) : f_M_isConstant_50 (fnd S c) g = some (b01 (decide (mean S (fnd S c) = 0)), g) := by
  have n60 := hi.1.1
  unfold f_M_isConstant_50 mean
  rcases fnd_cases S c with q | ⟨u, x, q1, q2, q3, q4⟩
  · rw [q]; rfl
  · have e54 : rA g 54 ((u : Nat) : Int) = (((x.role + 1) % 3 : Nat) : Int) := (h.2 u x q3).2.1
    have r2 := (hi.2.1 u x q3).1
    rw [q1, if_pos (by omega), if_neg (by omega), if_pos (by omega), e54, if_pos (by omega), if_neg (show ¬ (u : Int) < 0 by omega), Int.toNat_natCast, rol_get q3]
    by_cases r0 : x.role = 0
    · rw [if_pos (by rw [r0]; rfl), if_pos r0]; rfl
    · rw [if_neg (by omega), if_neg r0]
      by_cases hb : tb S.vars u = true
      · rw [if_pos hb]; rfl
      · rw [if_neg hb]; rfl
theorem m_isLive {S : RSt} {g : G2} (h : MN S g) (hv : MV S g) (hi : Iv S) (c : Int64) : f_M_isLive_50 (fnd S c) g = some (b01 (decide (mean S (fnd S c) = 1)), g) := by
  have n60 := hi.1.1
  unfold f_M_isLive_50 mean
  rcases fnd_cases S c with q | ⟨u, x, q1, q2, q3, q4⟩
  · rw [q]; rfl
  · have e54 : rA g 54 ((u : Nat) : Int) = (((x.role + 1) % 3 : Nat) : Int) := (h.2 u x q3).2.1
    have e55 : rA g 55 ((u : Nat) : Int) = b01 (tb S.vars u) := (hv u q2).1
    have r2 := (hi.2.1 u x q3).1
    have hl : tb S.vars u = true → x.role = 1 := fun z => by rw [← rol_get q3]; exact role1 hi q2 z
    rw [q1, if_pos (by omega), if_neg (by omega), if_pos (by omega), e54, if_pos (by omega), if_neg (show ¬ (u : Int) < 0 by omega), Int.toNat_natCast, rol_get q3]
    by_cases r0 : x.role = 0
    · rw [if_neg (by rw [r0]; decide), if_pos r0]; rfl
    · rw [if_neg r0]
      by_cases hb : tb S.vars u = true
      · have := hl hb
        rw [if_pos (by rw [this]; rfl), e55, if_pos (b01_ir _), hb, if_pos rfl]; rfl
      · have hb' : tb S.vars u = false := by cases hq : tb S.vars u with | false => rfl | true => exact absurd hq hb
        rw [if_neg hb]
        by_cases r1 : x.role = 1
        · rw [if_pos (by rw [r1]; rfl), e55, if_pos (b01_ir _), hb']; rfl
        · rw [if_neg (by omega)]; rfl
theorem m_stood {g : G2} (l : List Nat) (u : Nat) (hl : l.length ≤ 60) (h81 : ∀ (i v : Nat), l[i]? = some v → g.2.2.1 81 i = (v : Int)) (h60 : u < 60 ∧ ∀ v ∈ l, v < 60) : ∀ (k m i : Nat), i + k = l.length → k < m → l_M_stoodBefore_50 m 0 (u : Int) (l.length : Int) (i : Int) g = some (b01 (decide (u ∈ l.drop i)), g) := by
  intro k
  induction k with
  | zero =>
    intro m i hi hm
    obtain ⟨m, rfl⟩ : ∃ m', m = m' + 1 := ⟨m - 1, by omega⟩
    rw [s_M_stoodBefore_50_0, List.drop_eq_nil_of_le (by omega)]
    unfold b_M_stoodBefore_50_0
    rw [if_pos (by omega), if_pos (by omega), if_neg (by omega)]
    simp
  | succ k ih =>
    intro m i hi hm
    obtain ⟨m, rfl⟩ : ∃ m', m = m' + 1 := ⟨m - 1, by omega⟩
    obtain ⟨v, hv⟩ := ex_get (l := l) (k := i) (by omega)
    have e81 : rA g 81 ((i : Nat) : Int) = (v : Int) := h81 i v hv
    have := h60.2 v (List.mem_of_getElem? hv)
    have := h60.1
    rw [s_M_stoodBefore_50_0, drop_eq hv]
    unfold b_M_stoodBefore_50_0
    rw [if_pos (by omega), if_pos (by omega), if_pos (by omega), if_pos (by omega), e81, if_pos (by omega), if_pos (by omega)]
    by_cases q : v = u
    · rw [if_pos (by omega)]; simp [q]
    · rw [if_neg (by omega)]
      have := ih m (i + 1) (by omega) (by omega)
      rw [show ((i : Int) + 1) = ((i + 1 : Nat) : Int) from rfl, this]
      have q' : ¬ u = v := fun z => q z.symm
      simp [q']
theorem m_stood' {g : G2} {l : List Nat} {u n : Nat} {r : Option (Int × G2)} (h : l_M_stoodBefore_50 20000 0 (u : Int) (l.length : Int) ((0 : Nat) : Int) g = r) (hn : l.length = n) : f_M_stoodBefore_50 (u : Int) (n : Int) g = r := by
  subst hn
  unfold f_M_stoodBefore_50
  exact h
/-- but for the pairs, the place and the fault nothing differs -/
def SP (g g' : G2) : Prop := g'.2.1 = g.2.1 ∧ g'.2.2.2 = g.2.2.2 ∧ (∀ r, r ≠ 65 → r ≠ 66 → r ≠ 67 → g'.2.2.1 r = g.2.2.1 r) ∧ (∀ r, r ≠ 49 → g'.1 r = g.1 r) ∧ ∀ k, k ≠ 23 → k ≠ 6 → k ≠ 7 → g'.1 49 k = g.1 49 k
theorem SP.rf {g : G2} : SP g g := ⟨rfl, rfl, fun _ _ _ _ => rfl, fun _ _ => rfl, fun _ _ _ _ => rfl⟩
theorem SP.tr {a b c : G2} (h : SP a b) (k : SP b c) : SP a c := ⟨k.1.trans h.1, k.2.1.trans h.2.1, fun r h1 h2 h3 => (k.2.2.1 r h1 h2 h3).trans (h.2.2.1 r h1 h2 h3), fun r hr => (k.2.2.2.1 r hr).trans (h.2.2.2.1 r hr), fun q h1 h2 h3 => (k.2.2.2.2 q h1 h2 h3).trans (h.2.2.2.2 q h1 h2 h3)⟩
theorem SP.km {S : RSt} {g g' : G2} (k : SP g g') (h : MKm S g) : MKm S g' := by
  obtain ⟨k1, k2, k3, k4, k5⟩ := k
  unfold MKm MN MSt MA MAs NdAt PrAt rI at *
  rw [k2, k5 8 (by decide) (by decide) (by decide), k5 15 (by decide) (by decide) (by decide), k5 27 (by decide) (by decide) (by decide), k3 54 (by decide) (by decide) (by decide), k3 57 (by decide) (by decide) (by decide), k3 58 (by decide) (by decide) (by decide), k3 59 (by decide) (by decide) (by decide), k3 60 (by decide) (by decide) (by decide), k3 61 (by decide) (by decide) (by decide), k3 64 (by decide) (by decide) (by decide), k3 68 (by decide) (by decide) (by decide), k3 69 (by decide) (by decide) (by decide), k3 70 (by decide) (by decide) (by decide), k3 71 (by decide) (by decide) (by decide), k3 72 (by decide) (by decide) (by decide), k3 73 (by decide) (by decide) (by decide), k3 74 (by decide) (by decide) (by decide), k3 75 (by decide) (by decide) (by decide), k3 76 (by decide) (by decide) (by decide), k3 77 (by decide) (by decide) (by decide), k3 78 (by decide) (by decide) (by decide)]
  exact h
theorem WM.sp {g g' : G2} {ws : List (List Int)} (h : WM g ws) (k : SP g g') : WM g' ws := by
  obtain ⟨k1, k2, k3, k4, k5⟩ := k
  unfold WM rI at *
  rw [k5 4 (by decide) (by decide) (by decide), k3 51 (by decide) (by decide) (by decide), k3 52 (by decide) (by decide) (by decide), k3 50 (by decide) (by decide) (by decide)]
  exact h
/-- the model's pairs -/
def PL (g : G2) (P : List (Nat × Nat × Nat)) : Prop := rI g 49 23 = (P.length : Int) ∧ ∀ (i : Nat) (p : Nat × Nat × Nat), P[i]? = some p → g.2.2.1 65 i = (p.1 : Int) ∧ g.2.2.1 66 i = (p.2.1 : Int) ∧ g.2.2.1 67 i = (p.2.2 : Int)
theorem m_pairsL (tl : List Nat) (u s : Nat) (hn : tl.length ≤ 60) : ∀ (k m i : Nat) (g : G2) (P : List (Nat × Nat × Nat)), i + k = tl.length → 2 * k + 2 < m → PL g P → P.length ≤ 40 → rI g 49 14 = (s : Int) → rI g 49 6 = 0 → (∀ (i v : Nat), tl[i]? = some v → g.2.2.1 81 i = (v : Int)) →
    ∃ (m' : Nat) (g' : G2), m ≤ m' + 2 * k + 4 ∧ l_M_readApart_50 m 4 (tl.length : Int) 0 (u : Int) (i : Int) g = l_M_readApart_50 m' 6 (tl.length : Int) 0 (u : Int) 0 g' ∧ SP g g' ∧ ((P.length + k ≤ 40 ∧ PL g' (P ++ (tl.drop i).map (fun o => (o, u, s))) ∧ rI g' 49 6 = 0 ∧ rI g' 49 7 = rI g 49 7) ∨ (40 < P.length + k ∧ rI g' 49 6 = -7 ∧ rI g' 49 7 = rI g 49 5)) := by
  intro k
  induction k with
  | zero =>
    intro m i g P hi hm hP hP40 h14 h6 h81
    obtain ⟨m, rfl⟩ : ∃ m', m = m' + 1 := ⟨m - 1, by omega⟩
    refine ⟨m, g, by omega, ?_, SP.rf, Or.inl ⟨by omega, ?_, h6, rfl⟩⟩
    · rw [s_M_readApart_50_4]
      unfold b_M_readApart_50_4
      rw [if_pos (by omega), if_pos (by omega), if_neg (by omega)]
    · rw [List.drop_eq_nil_of_le (by omega), List.map_nil, List.append_nil]; exact hP
  | succ k ih =>
    intro m i g P hi hm hP hP40 h14 h6 h81
    obtain ⟨m, rfl⟩ : ∃ m', m = m' + 2 := ⟨m - 2, by omega⟩
    obtain ⟨p1, p2⟩ := hP
    obtain ⟨v, hv⟩ := ex_get (l := tl) (k := i) (by omega)
    have e81 : rA g 81 ((i : Nat) : Int) = (v : Int) := h81 i v hv
    have t1 : ((i : Int) + 1) = ((i + 1 : Nat) : Int) := rfl
    rw [show m + 2 = (m + 1) + 1 by omega, s_M_readApart_50_4]
    unfold b_M_readApart_50_4
    rw [if_pos (by omega), if_pos (by omega), if_pos (by omega), if_pos (by omega), if_pos h6, if_pos (by omega)]
    by_cases q : P.length = 40
    · -- no room
      rw [if_pos (by omega), m_fail0 h6, Option.bind_some, s_M_readApart_50_5]
      unfold b_M_readApart_50_5
      obtain ⟨m, rfl⟩ : ∃ m', m = m' + 1 := ⟨m - 1, by omega⟩
      refine ⟨m, gI (gI g 49 6 (-7)) 49 7 (rI g 49 5), by omega, ?_, ⟨rfl, rfl, fun _ _ _ _ => rfl, fun r hr => ?_, fun q' h1 h2 h3 => ?_⟩, Or.inr ⟨by omega, rfl, rfl⟩⟩
      · rw [s_M_readApart_50_4]
        unfold b_M_readApart_50_4
        have e6 : rI (gI (gI g 49 6 (-7)) 49 7 (rI g 49 5)) 49 6 = -7 := rfl
        by_cases z : (i : Int) + 1 < (tl.length : Int)
        · rw [if_pos (by omega), if_pos (by omega), if_pos z, e6, if_pos (by decide), if_neg (by decide)]
        · rw [if_pos (by omega), if_pos (by omega), if_neg z]
      · exact (am_updN hr).trans (am_updN hr)
      · show am_upd (am_upd g.1 49 (am_upd (g.1 49) 6 (-7))) 49 (am_upd (am_upd g.1 49 (am_upd (g.1 49) 6 (-7)) 49) 7 (rI g 49 5)) 49 q' = _
        rw [updN_at, am_updN h3, updN_at, am_updN h2]
    · rw [if_neg (by omega), if_pos (by omega), if_pos (by omega), e81, s_M_readApart_50_5]
      unfold b_M_readApart_50_5
      have en : (rI g 49 23).toNat = P.length := by rw [p1, Int.toNat_natCast]
      have sp1 : SP g (gI (gA (gA (gA g 65 (rI g 49 23) (v : Int)) 66 (rI g 49 23) (u : Int)) 67 (rI g 49 23) (rI g 49 14)) 49 23 ((rI g 49 23) + 1)) := by
        refine ⟨rfl, rfl, fun r h1 h2 h3 => ?_, fun r hr => ?_, fun q' h1 h2 h3 => ?_⟩
        · exact (am_updN h3).trans ((am_updN h2).trans (am_updN h1))
        · exact am_updN hr
        · show am_upd g.1 49 (am_upd (g.1 49) 23 _) 49 q' = _
          rw [updN_at, am_updN h1]
      obtain ⟨m', g', a1, a2, a3, a4⟩ := ih m (i + 1) (gI (gA (gA (gA g 65 (rI g 49 23) (v : Int)) 66 (rI g 49 23) (u : Int)) 67 (rI g 49 23) (rI g 49 14)) 49 23 ((rI g 49 23) + 1)) (P ++ [(v, u, s)]) (by omega) (by omega) ⟨by
          show rI g 49 23 + 1 = _
          rw [p1]; exact len1 _ _, fun q' p hp => by
          show am_upd (g.2.2.1 65) (rI g 49 23).toNat _ q' = _ ∧ am_upd (g.2.2.1 66) (rI g 49 23).toNat _ q' = _ ∧ am_upd (g.2.2.1 67) (rI g 49 23).toNat _ q' = _
          rw [en]
          rcases ap_get hp with ⟨z1, z2⟩ | ⟨z1, z2⟩
          · rw [am_updN (by omega), am_updN (by omega), am_updN (by omega)]; exact p2 q' p z2
          · subst z1; subst z2
            rw [updN_at, updN_at, updN_at]; exact ⟨rfl, rfl, h14⟩⟩ (by rw [List.length_append]; show P.length + 1 ≤ 40; omega) h14 h6 h81
      refine ⟨m', g', by omega, by rw [t1]; exact a2, sp1.tr a3, ?_⟩
      have hle : (P ++ [(v, u, s)]).length = P.length + 1 := by rw [List.length_append]; rfl
      rw [hle] at a4
      rcases a4 with ⟨b1, b2, b3, b4⟩ | ⟨b1, b2, b3⟩
      · refine Or.inl ⟨by omega, ?_, b3, b4⟩
        rw [drop_eq hv, List.map_cons, List.append_cons]
        exact b2
      · exact Or.inr ⟨by omega, b2, b3⟩
theorem m_apartRep {S : RSt} {g1 g2 : G2} {u : Nat} {P : List (Nat × Nat × Nat)} (hi : Iv S) (hs : S.stage = 3) (q2 : u < S.nms.length) (a7 : MRep S g1) (xp1 : P.length = S.prs.length) (xp2 : ∀ (i : Nat) (p : Nat × Nat × Nat), P[i]? = some p → g1.2.2.1 65 i = (p.1 : Int) ∧ g1.2.2.1 66 i = (p.2.1 : Int) ∧ g1.2.2.1 67 i = (p.2.2 : Int) ∧ p.2.2 ≤ S.out.length) (xp3 : ∀ x y, (x, y) ∈ S.prs ↔ ∃ z, (x, y, z) ∈ P) (xp4 : ∀ (t : Nat) (o : Int64 × Int64 × Int64 × Nat), S.out[t]? = some o → (∀ (i : Nat) (p : Nat × Nat × Nat), P[i]? = some p → (i < o.2.2.2 ↔ p.2.2 ≤ t)) ∧ ∀ x y, (x, y) ∈ S.prs.take o.2.2.2 ↔ ∃ z, (x, y, z) ∈ P.take o.2.2.2) (b3 : SP g1 g2) (c2 : PL g2 (P ++ S.tl.map (fun o => (o, u, S.out.length)))) : MRep ((((S.uPrs (S.prs ++ (hsOf S.nms.length S.tv).map (fun o => (o, u)))).uTv (S.tv ||| bit u)).uTl (S.tl ++ [u])).uTaken (S.taken + 1)) (gA g2 81 (S.taken : Int) (u : Int)) := by
  have n60 := hi.1.1
  obtain ⟨_, _, i5, i5'⟩ := hi.2.2.2.2.2.1
  obtain ⟨t1, t2, t3, t4⟩ := i5 hs
  have htl := i5' hs
  obtain ⟨hK, ⟨x1, xv, xh, _⟩, xd, _, _, _⟩ := a7
  obtain ⟨c2a, c2b⟩ := c2
  have hl2 : (P ++ S.tl.map (fun o => (o, u, S.out.length))).length = (S.prs ++ (hsOf S.nms.length S.tv).map (fun o => (o, u))).length := by
    rw [List.length_append, List.length_append, List.length_map, List.length_map, xp1, t3, t2]
  have hK2 := b3.km hK
  refine ⟨hK2, ⟨?_, fun v hv => ?_, fun k hk => ?_, ⟨?_, P ++ S.tl.map (fun o => (o, u, S.out.length)), hl2, fun i p hp => ?_, fun x y => ?_, fun t o ho => ?_⟩⟩, fun _ i v hv => ?_, fun z => ?_, fun z => ?_, fun z => ?_⟩
  · exact (b3.2.2.2.2 14 (by decide) (by decide) (by decide)).trans x1
  · show g2.2.2.1 55 v = _ ∧ (_ → 0 ≤ g2.2.2.1 56 v ∧ g2.2.2.1 56 v ≤ _) ∧ ∀ t o, _ → (_ ↔ _ ∧ g2.2.2.1 56 v ≤ _)
    rw [b3.2.2.1 55 (by decide) (by decide) (by decide), b3.2.2.1 56 (by decide) (by decide) (by decide)]
    exact xv v hv
  · show g2.2.2.1 62 k = _ ∧ (_ → 0 ≤ g2.2.2.1 63 k ∧ g2.2.2.1 63 k ≤ _) ∧ ∀ t o, _ → (_ ↔ _ ∧ g2.2.2.1 63 k ≤ _)
    rw [b3.2.2.1 62 (by decide) (by decide) (by decide), b3.2.2.1 63 (by decide) (by decide) (by decide)]
    exact xh k hk
  · show rI g2 49 23 = ((S.prs ++ (hsOf S.nms.length S.tv).map (fun o => (o, u))).length : Int)
    rw [c2a, hl2]
  · obtain ⟨z1, z2, z3⟩ := c2b i p hp
    refine ⟨z1, z2, z3, ?_⟩
    have hp' := List.mem_of_getElem? hp
    rw [List.mem_append, List.mem_map] at hp'
    rcases hp' with hp' | ⟨o, _, hp'⟩
    · obtain ⟨i', hi'⟩ := List.getElem?_of_mem hp'
      exact (xp2 i' p hi').2.2.2
    · rw [← hp']; exact Nat.le_refl _
  · show (x, y) ∈ S.prs ++ (hsOf S.nms.length S.tv).map (fun o => (o, u)) ↔ _
    rw [List.mem_append, List.mem_map, xp3 x y]
    constructor
    · rintro (⟨z, hz⟩ | ⟨o, ho, he⟩)
      · exact ⟨z, by rw [List.mem_append]; exact Or.inl hz⟩
      · injection he with he1 he2
        subst he1; subst he2
        rw [mem_hsOf] at ho
        exact ⟨S.out.length, by rw [List.mem_append, List.mem_map]; exact Or.inr ⟨o, (t4 o (by omega)).mp ho.2, rfl⟩⟩
    · rintro ⟨z, hz⟩
      rw [List.mem_append, List.mem_map] at hz
      rcases hz with hz | ⟨o, ho, he⟩
      · exact Or.inl ⟨z, hz⟩
      · injection he with he1 he2
        injection he2 with he3 he4
        subst he1; subst he3
        right
        have := (htl o ho).1
        exact ⟨o, mem_hsOf.mpr ⟨this, (t4 o (by omega)).mpr ho⟩, rfl⟩
  · have ho' : S.out[t]? = some o := ho
    obtain ⟨z1, z2⟩ := xp4 t o ho'
    have hcnt : o.2.2.2 ≤ S.prs.length := (hi.2.2.2.1.2 t o ho').2.1
    have hto := lt_get ho'
    refine ⟨fun i p hp => ?_, fun x y => ?_⟩
    · rcases Nat.lt_or_ge i P.length with hip | hip
      · rw [List.getElem?_append_left hip] at hp
        exact z1 i p hp
      · have hp' := hp
        rw [List.getElem?_append_right hip, List.getElem?_map] at hp'
        cases hq : S.tl[i - P.length]? with
        | none => rw [hq] at hp'; cases hp'
        | some o2 =>
          rw [hq] at hp'
          injection hp' with hp'
          rw [← hp']
          show i < o.2.2.2 ↔ S.out.length ≤ t
          omega
    · show (x, y) ∈ (S.prs ++ _).take o.2.2.2 ↔ _
      rw [List.take_append_of_le_length hcnt, List.take_append_of_le_length (by omega)]
      exact z2 x y
  · show am_upd (g2.2.2.1 81) S.taken (u : Int) i = (v : Int)
    have hv' : (S.tl ++ [u])[i]? = some v := hv
    rcases ap_get hv' with ⟨z1, z2⟩ | ⟨z1, z2⟩
    · rw [am_updN (by omega), b3.2.2.1 81 (by decide) (by decide) (by decide)]
      exact xd hs i v z2
    · rw [z1, z2, t2, updN_at]
  · have z2 : S.stage = 6 ∨ S.stage = 7 ∨ 9 ≤ S.stage := z
    omega
  · have z2 : 10 ≤ S.stage := z
    omega
  · have z2 : 12 ≤ S.stage := z
    omega
theorem MFin.a81 {r : Int × Int × RSt} {g : G2} (h : MFin r g) (x v w : Int) : MFin r (gI (gA g 81 x v) 49 5 w) := by
  obtain ⟨f1, f2, f3, f4, f5⟩ := h
  have hk2 : MKm r.2.2 (gA g 81 x v) := f5
  exact ⟨f1, f2, f3, f4, hk2.sf (SF.i (Or.inl rfl))⟩
def apF (n : Nat) : Nat := 200 * n + 200
theorem apF_0 : apF 0 = 200 := rfl
theorem apF_s (n : Nat) : apF (n + 1) = apF n + 200 := by unfold apF; omega
theorem name3 {S : RSt} {c : Int64} {l : List Int} (hs : S.stage = 3) : nameS S c l = takeApartS S (fnd S c) := by
  unfold nameS
  rw [if_neg (by omega), if_neg (by omega), if_neg (by omega), if_pos hs]
theorem bb_ap3 (L : Nat → Int → Int → Int → Int → G2 → Option G2) (i1 i2 i3 i4 : Int) (g : G2) : b_M_readApart_50_3 L i1 i2 i3 i4 g = L 4 i1 0 i3 0 g := rfl
theorem m_ap34 (p n : Nat) (hn : n ≤ 60) (c : Int) (g : G2) (h1 : rI g 49 6 ≠ 0) (h2 : ir (rI g 49 6)) : l_M_readApart_50 (p + 4) 3 (n : Int) 0 c 0 g = l_M_readApart_50 (p + 2) 6 (n : Int) 0 c 0 g := by
  rw [show p + 4 = (p + 3) + 1 by omega, s_M_readApart_50_3, bb_ap3]
  rw [show p + 3 = (p + 2) + 1 by omega, s_M_readApart_50_4]
  unfold b_M_readApart_50_4
  by_cases z : (0 : Int) < (n : Int)
  · rw [if_pos ir_0, if_pos (by omega), if_pos z, if_pos h2, if_neg h1]
  · rw [if_pos ir_0, if_pos (by omega), if_neg z]
theorem m_apartL {ws : List (List Int)} {b : Bool} : ∀ (ts : List (Nat × List Int)) (S : RSt) (g : G2) (m : Nat), MGo ws b S ts g → S.stage = 3 → apF (42 - S.taken) < m → MRes ws b S ts (l_M_readApart_50 m 0 (S.taken : Int) 0 0 0 g) := by
  intro ts
  induction ts with
  | nil =>
    intro S g m h hs hm
    unfold apF at hm
    obtain ⟨m, rfl⟩ : ∃ m', m = m' + 2 := ⟨m - 2, by omega⟩
    have h6 := h.2.2.2.2.2.1
    rcases m_need h (by omega) with ⟨g', a1, a2, a3⟩ | ⟨j, l, ts', g', a0, _⟩
    · refine ⟨g', ?_, Or.inl a2⟩
      rw [show m + 2 = (m + 1) + 1 by omega, s_M_readApart_50_0]
      unfold b_M_readApart_50_0
      rw [if_pos (by omega), if_pos h6, bd_some a1, if_pos (by decide), if_neg (by decide), s_M_readApart_50_1]
      unfold b_M_readApart_50_1
      rw [if_pos (by decide), if_neg (by decide), a2.fail]
      rfl
    · cases a0
  | cons t ts ih =>
    intro S g m h hs hm
    have htk : S.taken ≤ 41 := by have := (h.2.2.1.2.2.2.2.2.1.2.2.1 hs).1; have := h.2.2.1.1.2.2.2.2.1; omega
    rw [show 42 - S.taken = (41 - S.taken) + 1 by omega, apF_s] at hm
    obtain ⟨m, rfl⟩ : ∃ m', m = m' + 6 := ⟨m - 6, by omega⟩
    have h6 := h.2.2.2.2.2.1
    have hi := h.2.2.1
    have n60 := hi.1.1
    have p40 : S.prs.length ≤ 40 := hi.1.2.2.2.2.1
    obtain ⟨_, _, i5, i5'⟩ := hi.2.2.2.2.2.1
    obtain ⟨t1, t2, t3, t4⟩ := i5 hs
    have htl := i5' hs
    rw [show m + 6 = (m + 5) + 1 by omega, s_M_readApart_50_0]
    unfold b_M_readApart_50_0
    rw [if_pos (by omega), if_pos h6]
    rcases m_need h (by omega) with ⟨g', a1, a2, a3⟩ | ⟨j, l, ts', g1, a0, a1, a2, a3, a4, a5, a6, a7, a8, a9, a10, a11⟩
    · refine ⟨g', ?_, Or.inl a2⟩
      rw [bd_some a1, if_pos (by decide), if_neg (by decide), show m + 5 = (m + 4) + 1 by omega, s_M_readApart_50_1]
      unfold b_M_readApart_50_1
      rw [if_pos (by decide), if_neg (by decide), a2.fail]
      rfl
    · injection a0 with a01 a02
      subst a02
      subst a01
      have hwh := wh_ir l
      rw [bd_some a1, if_pos (by omega)]
      have hbad : whOf l ≠ 0 → wordS S l = .error (-3) → MRes ws b S ((j, l) :: ts) (l_M_readApart_50 (m + 5) 1 (S.taken : Int) (whOf l) 0 0 g1) := by
        intro q0 hw
        obtain ⟨g2, b1, b2, b3⟩ := m_bad (b := b) (ts := ts) hw (by decide) a7.1 a8 a10
        refine ⟨g2, ?_, Or.inl b2⟩
        rw [show m + 5 = (m + 4) + 1 by omega, s_M_readApart_50_1]
        unfold b_M_readApart_50_1
        rw [if_pos (by omega), if_neg q0, b1]
        rfl
      by_cases q9 : whOf l = 9
      · have hk := (wh9.mp q9).2
        have hw0 : whOf l ≠ 0 := by omega
        rw [if_pos q9, if_pos (by omega)]
        by_cases qt : 1 < S.taken
        · have hw : wordS S l = .ok (S.uStage 0) := by
            rw [word_key hw0, hk]
            unfold keyS endNamesS
            rw [if_neg (by omega), if_pos (by omega), if_neg (by rw [if_pos hs]; omega)]
          rw [if_pos (by omega)]
          refine ⟨_, rfl, Or.inr ⟨S.uStage 0, ts, run_ok hw, ?_, rfl, by simp⟩⟩
          obtain ⟨y1, y2⟩ := iv_word hi h.2.2.2.1 hw
          exact ⟨a6.sf (SF.i (Or.inl rfl)), (stage0_rep a7).sf (SF.i (Or.inl rfl)), y1, y2, at_next a4 a11 a10, a8, a9⟩
        · rw [if_neg (by omega)]
          exact hbad hw0 (by
            rw [word_key hw0, hk]
            unfold keyS endNamesS
            rw [if_neg (by omega), if_pos (by omega), if_pos (Or.inr (by rw [if_pos hs]; omega))])
      · rw [if_neg q9]
        by_cases q0 : whOf l = 0
        · have hw1 : wordS S l = takeApartS S (fnd S (cdOf l)) := by
            rw [word_name q0 a3, name3 hs]
          -- behind a fault
          have fin6 : ∀ (p : Nat) (c : Int) (g2 : G2), MFin (rn ws b S ((j, l) :: ts)) g2 → MRes ws b S ((j, l) :: ts) (l_M_readApart_50 (p + 2) 6 (S.taken : Int) 0 c 0 g2) := by
            intro p c g2 hf
            have hf2 := hf.a81 (S.taken : Int) c ((rI g2 49 5) + 1)
            refine ⟨gI (gA g2 81 (S.taken : Int) c) 49 5 ((rI g2 49 5) + 1), ?_, Or.inl hf2⟩
            rw [show p + 2 = (p + 1) + 1 by omega, s_M_readApart_50_6]
            unfold b_M_readApart_50_6
            rw [if_pos (by omega), s_M_readApart_50_0]
            unfold b_M_readApart_50_0
            rw [if_pos hf2.ne.2, if_neg hf2.ne.1]
          have fin3 : ∀ (p : Nat) (c : Int) (g2 : G2), MFin (rn ws b S ((j, l) :: ts)) g2 → MRes ws b S ((j, l) :: ts) (l_M_readApart_50 (p + 4) 3 (S.taken : Int) 0 c 0 g2) := by
            intro p c g2 hf
            rw [m_ap34 p S.taken (by omega) c g2 hf.ne.1 hf.ne.2]
            exact fin6 p c g2 hf
          have hC := m_isConst a7.1.1 hi (cdOf l)
          have hL := m_isLive a7.1.1 a7.2.1.2.1 hi (cdOf l)
          rw [q0, show m + 5 = (m + 4) + 1 by omega, s_M_readApart_50_1]
          unfold b_M_readApart_50_1
          rw [if_pos (by decide), if_pos rfl, bd_some (m_findWord a7.1.1 n60 a6 a4 a10), bd_some hC, if_pos (b01_ir _)]
          rcases mean_cases S (cdOf l) with q | ⟨u, x, q1, q2, q3, ⟨q4, q5⟩ | ⟨q4, q5, q6⟩⟩
          · have hw : wordS S l = .error (-4) := by
              rw [hw1]; unfold takeApartS
              rw [q, if_pos (by decide), if_pos rfl]
            obtain ⟨g2, b1, b2, b3⟩ := m_bad (b := b) (ts := ts) hw (by decide) a7.1 a8 a10
            rw [q, if_pos (by decide), bd_some hL, q, if_pos (by decide), if_pos (by decide), b1, Option.bind_some]
            exact fin3 m _ g2 b2
          · have hw : wordS S l = .error (-6) := by
              rw [hw1]; unfold takeApartS
              rw [q4, if_pos (by decide), if_neg (by decide)]
            obtain ⟨g2, b1, b2, b3⟩ := m_bad (b := b) (ts := ts) hw (by decide) a7.1 a8 a10
            rw [q4, if_neg (by decide), show m + 4 = (m + 3) + 1 by omega, s_M_readApart_50_2]
            unfold b_M_readApart_50_2
            rw [bd_some hC, q4, if_pos (by decide), if_neg (by decide), b1, Option.bind_some]
            obtain ⟨m, rfl⟩ : ∃ m', m = m' + 1 := ⟨m - 1, by omega⟩
            rw [show m + 1 + 3 = m + 4 by omega]
            exact fin3 m _ g2 b2
          · have hun : u < S.nms.length := q2
            have hst := m_stood (g := g1) S.tl u (by omega) (a7.2.2.1 hs) ⟨by omega, fun v hv => by have := (htl v hv).1; omega⟩ S.tl.length 20000 0 (by omega) (by omega)
            rw [List.drop_zero] at hst
            have hst' := m_stood' hst t2.symm
            rw [q4, if_pos (by decide), bd_some hL, q4, if_pos (by decide), if_neg (by decide), show m + 4 = (m + 3) + 1 by omega, s_M_readApart_50_2]
            unfold b_M_readApart_50_2
            rw [bd_some hC, q4, if_pos (by decide), if_pos (by decide), q1, bd_some hst', if_pos (b01_ir _)]
            have hw2 : wordS S l = if tb S.tv u = true then .error (-4) else if 40 < S.prs.length + S.taken then .error (-7) else .ok ((((S.uPrs (S.prs ++ (hsOf S.nms.length S.tv).map (fun o => (o, u)))).uTv (S.tv ||| bit u)).uTl (S.tl ++ [u])).uTaken (S.taken + 1)) := by
              rw [hw1]; unfold takeApartS
              rw [q4, if_neg (by decide), q1, Int.toNat_natCast]
            by_cases hmem : u ∈ S.tl
            · have hw : wordS S l = .error (-4) := by rw [hw2, if_pos ((t4 u (by omega)).mpr hmem)]
              obtain ⟨g2, b1, b2, b3⟩ := m_bad (b := b) (ts := ts) hw (by decide) a7.1 a8 a10
              rw [decide_eq_true hmem, if_neg (by decide), b1, Option.bind_some]
              obtain ⟨m, rfl⟩ : ∃ m', m = m' + 1 := ⟨m - 1, by omega⟩
              rw [show m + 1 + 3 = m + 4 by omega]
              exact fin3 m _ g2 b2
            · have htv : ¬ tb S.tv u = true := fun z => hmem ((t4 u (by omega)).mp z)
              rw [if_neg htv] at hw2
              have a7' := a7
              obtain ⟨hK, ⟨x1, xv, xh, ⟨xp, P, xp1, xp2, xp3, xp4⟩⟩, xd, _, _, _⟩ := a7
              rw [decide_eq_false hmem, if_pos (by decide), show m + 3 = (m + 2) + 1 by omega, s_M_readApart_50_3, bb_ap3]
              obtain ⟨m', g2, b1, b2, b3, b4⟩ := m_pairsL S.tl u S.out.length (by omega) S.tl.length (m + 2) 0 g1 P (by omega) (by omega) ⟨by rw [xp, xp1], fun i p hp => ⟨(xp2 i p hp).1, (xp2 i p hp).2.1, (xp2 i p hp).2.2.1⟩⟩ (by omega) x1 a8 (xd hs)
              rw [← t2] at b2 b4
              have b2' : l_M_readApart_50 (m + 2) 4 (S.taken : Int) 0 (u : Int) 0 g1 = l_M_readApart_50 m' 6 (S.taken : Int) 0 (u : Int) 0 g2 := b2
              rw [b2']
              obtain ⟨m', rfl⟩ : ∃ m'', m' = m'' + 2 := ⟨m' - 2, by omega⟩
              have e5 : rI g2 49 5 = (j : Int) := (b3.2.2.2.2 5 (by decide) (by decide) (by decide)).trans a10
              rcases b4 with ⟨c1, c2, c3, c4⟩ | ⟨c1, c2, c3⟩
              · have hw : wordS S l = .ok ((((S.uPrs (S.prs ++ (hsOf S.nms.length S.tv).map (fun o => (o, u)))).uTv (S.tv ||| bit u)).uTl (S.tl ++ [u])).uTaken (S.taken + 1)) := by rw [hw2, if_neg (by omega)]
                obtain ⟨y1, y2⟩ := iv_word hi h.2.2.2.1 hw
                rw [show m' + 2 = (m' + 1) + 1 by omega, s_M_readApart_50_6]
                unfold b_M_readApart_50_6
                rw [if_pos (by omega)]
                rw [List.drop_zero] at c2
                have hR := m_apartRep hi hs q2 a7' xp1 xp2 xp3 xp4 b3 c2
                have hW1 := a6.sp b3
                have hW2 : WM (gA g2 81 (S.taken : Int) (u : Int)) ws := hW1
                have hG : MGo ws b ((((S.uPrs (S.prs ++ (hsOf S.nms.length S.tv).map (fun o => (o, u)))).uTv (S.tv ||| bit u)).uTl (S.tl ++ [u])).uTaken (S.taken + 1)) ts (gI (gA g2 81 (S.taken : Int) (u : Int)) 49 5 ((rI g2 49 5) + 1)) := ⟨hW2.sf (SF.i (Or.inl rfl)), hR.sf (SF.i (Or.inl rfl)), y1, y2, at_next (g := gA g2 81 (S.taken : Int) (u : Int)) a4 a11 e5, c3, c4.trans a9⟩
                exact MRes.ok hw (ih _ _ (m' + 1) hG hs (by show apF (42 - (S.taken + 1)) < m' + 1; rw [show 42 - (S.taken + 1) = 41 - S.taken by omega]; omega))
              · have hw : wordS S l = .error (-7) := by rw [hw2, if_pos (by omega)]
                have hf : MFin (rn ws b S ((j, l) :: ts)) g2 := by
                  rw [run_err hw]
                  exact ⟨c2, (show (-12 : Int) < -7 by decide), (show (-7 : Int) < 0 by decide), c3.trans a10, b3.km hK⟩
                exact fin6 m' _ g2 hf
        · exact hbad q0 (by
            rw [word_key q0]
            unfold keyS endNamesS
            have hk : kwOf l ≠ 46 := fun z => q9 (wh9.mpr ⟨Classical.byContradiction (fun w => q0 (wh0.mpr w)), z⟩)
            rw [if_neg (by omega), if_pos (by omega), if_pos (Or.inl hk)])
