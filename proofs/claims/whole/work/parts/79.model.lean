/-! ===== the model: scopes ===== -/
theorem gI_gI (g : G2) (r k : Nat) (a b : Int) : gI (gI g r k a) r k b = gI g r k b := by
  unfold gI
  have : am_upd (am_upd g.1 r (am_upd (g.1 r) k a)) r (am_upd (am_upd g.1 r (am_upd (g.1 r) k a) r) k b) = am_upd g.1 r (am_upd (g.1 r) k b) := by
    funext x
    unfold am_upd
    by_cases hx : x = r
    · rw [if_pos hx, if_pos hx]
      funext y
      by_cases hy : y = k
      · rw [if_pos hy, if_pos hy]
      · rw [if_neg hy, if_neg hy, if_pos rfl, if_neg hy]
    · rw [if_neg hx, if_neg hx, if_neg hx]
  exact Prod.ext this rfl
theorem gI_id (g : G2) (r k : Nat) : gI g r k (rI g r k) = g := by
  unfold gI
  have : am_upd g.1 r (am_upd (g.1 r) k (rI g r k)) = g.1 := by
    funext x
    unfold am_upd
    by_cases hx : x = r
    · rw [if_pos hx]
      subst hx
      funext y
      by_cases hy : y = k
      · rw [if_pos hy, hy]
      · rw [if_neg hy]
    · rw [if_neg hx]
  exact Prod.ext this rfl
theorem m_close0 (n s : Nat) (hn : n ≤ 60) (hs : s ≤ 6) (f : Nat → Bool) : ∀ (k m i : Nat) (g : G2), i + k = n → k < m → rI g 49 8 = (n : Int) → rI g 49 14 = (s : Int) → (∀ v, i ≤ v → v < n → (g.2.2.1 55 v = 0 ∨ g.2.2.1 55 v = 1) ∧ (g.2.2.1 55 v = 1 → 0 ≤ g.2.2.1 56 v ∧ g.2.2.1 56 v ≤ (s : Int)) ∧ (f v = true ↔ g.2.2.1 55 v = 1 ∧ g.2.2.1 56 v < (s : Int))) → ∃ (m' : Nat) (g' : G2), m = m' + k + 1 ∧ l_M_closeScope_50 m 0 (i : Int) g = l_M_closeScope_50 m' 1 0 g' ∧ KK (fun r => r ≠ 55) g g' ∧ (∀ v, v < i → g'.2.2.1 55 v = g.2.2.1 55 v) ∧ ∀ v, i ≤ v → v < n → g'.2.2.1 55 v = b01 (f v) := by
  intro k
  induction k with
  | zero =>
    intro m i g hi hm h8 h14 hf
    obtain ⟨m, rfl⟩ : ∃ m', m = m' + 1 := ⟨m - 1, by omega⟩
    refine ⟨m, g, rfl, ?_, KK.rf, fun _ _ => rfl, fun v h1 h2 => by omega⟩
    rw [s_M_closeScope_50_0]
    unfold b_M_closeScope_50_0
    rw [if_pos (by omega), if_pos (by omega), if_neg (by omega)]
  | succ k ih =>
    intro m i g hi hm h8 h14 hf
    obtain ⟨m, rfl⟩ : ∃ m', m = m' + 1 := ⟨m - 1, by omega⟩
    obtain ⟨f1, f2, f3⟩ := hf i (by omega) (by omega)
    have e55 : rA g 55 ((i : Nat) : Int) = g.2.2.1 55 i := rfl
    have e56 : rA g 56 ((i : Nat) : Int) = g.2.2.1 56 i := rfl
    have go : ∀ v : Int, v = b01 (f i) → ∃ (m' : Nat) (g' : G2), m + 1 = m' + (k + 1) + 1 ∧ l_M_closeScope_50 m 0 ((i : Int) + 1) (gA g 55 (i : Int) v) = l_M_closeScope_50 m' 1 0 g' ∧ KK (fun r => r ≠ 55) g g' ∧ (∀ v, v < i → g'.2.2.1 55 v = g.2.2.1 55 v) ∧ ∀ v, i ≤ v → v < n → g'.2.2.1 55 v = b01 (f v) := by
      intro v hv
      obtain ⟨m', g', a1, a2, a3, a4, a5⟩ := ih m (i + 1) (gA g 55 (i : Int) v) (by omega) (by omega) h8 h14 (fun w h1 h2 => by
        have e : (gA g 55 (i : Int) v).2.2.1 55 w = g.2.2.1 55 w := am_updN (by omega)
        rw [e]; exact hf w (by omega) h2)
      refine ⟨m', g', by omega, a2, (KK.a (by decide) KK.rf).tr a3, fun w hw => ?_, fun w h1 h2 => ?_⟩
      · rw [a4 w (by omega)]; exact am_updN (by omega)
      · rcases Nat.lt_or_ge i w with q | q
        · exact a5 w (by omega) h2
        · have : w = i := by omega
          subst this
          rw [a4 w (by omega), ← hv]; exact updN_at _ _ _
    rw [s_M_closeScope_50_0]
    unfold b_M_closeScope_50_0
    rw [if_pos (by omega), if_pos (by omega), if_pos (by omega), if_pos (by omega), e55, e56, if_pos (by omega)]
    by_cases q0 : g.2.2.1 55 i = 0
    · rw [if_pos q0]
      have : f i = false := by
        cases hq : f i with
        | false => rfl
        | true => have := (f3.mp hq).1; omega
      exact go 0 (by rw [this]; rfl)
    · have q1 : g.2.2.1 55 i = 1 := by omega
      have := f2 q1
      rw [if_neg q0, if_pos (by omega), if_pos (by omega)]
      by_cases q2 : g.2.2.1 56 i < rI g 49 14
      · rw [if_pos q2]
        exact go 1 (by rw [f3.mpr ⟨q1, by omega⟩]; rfl)
      · rw [if_neg q2]
        have : f i = false := by
          cases hq : f i with
          | false => rfl
          | true => have := (f3.mp hq).2; omega
        exact go 0 (by rw [this]; rfl)
theorem m_close1 (n s : Nat) (hn : n ≤ 40) (hs : s ≤ 6) (f : Nat → Bool) : ∀ (k m i : Nat) (g : G2), i + k = n → k < m → rI g 49 15 = (n : Int) → rI g 49 14 = (s : Int) → (∀ v, i ≤ v → v < n → (g.2.2.1 62 v = 0 ∨ g.2.2.1 62 v = 1) ∧ (g.2.2.1 62 v = 1 → 0 ≤ g.2.2.1 63 v ∧ g.2.2.1 63 v ≤ (s : Int)) ∧ (f v = true ↔ g.2.2.1 62 v = 1 ∧ g.2.2.1 63 v < (s : Int))) → ∃ (m' : Nat) (g' : G2), m = m' + k + 1 ∧ l_M_closeScope_50 m 1 (i : Int) g = l_M_closeScope_50 m' 2 0 g' ∧ KK (fun r => r ≠ 62) g g' ∧ (∀ v, v < i → g'.2.2.1 62 v = g.2.2.1 62 v) ∧ ∀ v, i ≤ v → v < n → g'.2.2.1 62 v = b01 (f v) := by
  intro k
  induction k with
  | zero =>
    intro m i g hi hm h8 h14 hf
    obtain ⟨m, rfl⟩ : ∃ m', m = m' + 1 := ⟨m - 1, by omega⟩
    refine ⟨m, g, rfl, ?_, KK.rf, fun _ _ => rfl, fun v h1 h2 => by omega⟩
    rw [s_M_closeScope_50_1]
    unfold b_M_closeScope_50_1
    rw [if_pos (by omega), if_pos (by omega), if_neg (by omega)]
  | succ k ih =>
    intro m i g hi hm h8 h14 hf
    obtain ⟨m, rfl⟩ : ∃ m', m = m' + 1 := ⟨m - 1, by omega⟩
    obtain ⟨f1, f2, f3⟩ := hf i (by omega) (by omega)
    have e62 : rA g 62 ((i : Nat) : Int) = g.2.2.1 62 i := rfl
    have e63 : rA g 63 ((i : Nat) : Int) = g.2.2.1 63 i := rfl
    have go : ∀ v : Int, v = b01 (f i) → ∃ (m' : Nat) (g' : G2), m + 1 = m' + (k + 1) + 1 ∧ l_M_closeScope_50 m 1 ((i : Int) + 1) (gA g 62 (i : Int) v) = l_M_closeScope_50 m' 2 0 g' ∧ KK (fun r => r ≠ 62) g g' ∧ (∀ v, v < i → g'.2.2.1 62 v = g.2.2.1 62 v) ∧ ∀ v, i ≤ v → v < n → g'.2.2.1 62 v = b01 (f v) := by
      intro v hv
      obtain ⟨m', g', a1, a2, a3, a4, a5⟩ := ih m (i + 1) (gA g 62 (i : Int) v) (by omega) (by omega) h8 h14 (fun w h1 h2 => by
        have e : (gA g 62 (i : Int) v).2.2.1 62 w = g.2.2.1 62 w := am_updN (by omega)
        rw [e]; exact hf w (by omega) h2)
      refine ⟨m', g', by omega, a2, (KK.a (by decide) KK.rf).tr a3, fun w hw => ?_, fun w h1 h2 => ?_⟩
      · rw [a4 w (by omega)]; exact am_updN (by omega)
      · rcases Nat.lt_or_ge i w with q | q
        · exact a5 w (by omega) h2
        · have : w = i := by omega
          subst this
          rw [a4 w (by omega), ← hv]; exact updN_at _ _ _
    rw [s_M_closeScope_50_1]
    unfold b_M_closeScope_50_1
    rw [if_pos (by omega), if_pos (by omega), if_pos (by omega), if_pos (by omega), e62, e63, if_pos (by omega)]
    by_cases q0 : g.2.2.1 62 i = 0
    · rw [if_pos q0]
      have : f i = false := by
        cases hq : f i with
        | false => rfl
        | true => have := (f3.mp hq).1; omega
      exact go 0 (by rw [this]; rfl)
    · have q1 : g.2.2.1 62 i = 1 := by omega
      have := f2 q1
      rw [if_neg q0, if_pos (by omega), if_pos (by omega)]
      by_cases q2 : g.2.2.1 63 i < rI g 49 14
      · rw [if_pos q2]
        exact go 1 (by rw [f3.mpr ⟨q1, by omega⟩]; rfl)
      · rw [if_neg q2]
        have : f i = false := by
          cases hq : f i with
          | false => rfl
          | true => have := (f3.mp hq).2; omega
        exact go 0 (by rw [this]; rfl)
theorem m_close2 (s c : Nat) (hs : s ≤ 6) (g : G2) (h14 : rI g 49 14 = (s : Int)) : ∀ (d m : Nat), c + d ≤ 40 → d < m → (∀ i, i < c + d → 0 ≤ g.2.2.1 67 i ∧ g.2.2.1 67 i ≤ (s : Int) ∧ (i < c ↔ g.2.2.1 67 i ≠ (s : Int))) → ∃ m', m = m' + d + 1 ∧ l_M_closeScope_50 m 2 0 (gI g 49 23 ((c + d : Nat) : Int)) = l_M_closeScope_50 m' 3 0 (gI g 49 23 (c : Int)) := by
  intro d
  induction d with
  | zero =>
    intro m hc hm hf
    obtain ⟨m, rfl⟩ : ∃ m', m = m' + 1 := ⟨m - 1, by omega⟩
    refine ⟨m, rfl, ?_⟩
    have e23 : rI (gI g 49 23 ((c + 0 : Nat) : Int)) 49 23 = (c : Int) := rfl
    have e14 : rI (gI g 49 23 ((c + 0 : Nat) : Int)) 49 14 = (s : Int) := h14
    rw [s_M_closeScope_50_2]
    unfold b_M_closeScope_50_2
    rw [e23, e14, if_pos (by omega)]
    by_cases q : 0 < c
    · have e67 : rA (gI g 49 23 ((c + 0 : Nat) : Int)) 67 ((c : Int) - 1) = g.2.2.1 67 (c - 1) := by
        show g.2.2.1 67 ((c : Int) - 1).toNat = _
        rw [show ((c : Int) - 1).toNat = c - 1 by omega]
      obtain ⟨y1, y2, y3⟩ := hf (c - 1) (by omega)
      rw [if_pos (by omega), if_pos (by omega), e67, if_pos (by omega), if_pos (by omega), if_neg (y3.mp (by omega))]
      rfl
    · rw [if_neg (by omega)]
      rfl
  | succ d ih =>
    intro m hc hm hf
    obtain ⟨m, rfl⟩ : ∃ m', m = m' + 1 := ⟨m - 1, by omega⟩
    obtain ⟨m', a1, a2⟩ := ih m (by omega) (by omega) (fun i hi => hf i (by omega))
    refine ⟨m', by omega, ?_⟩
    have e23 : rI (gI g 49 23 ((c + (d + 1) : Nat) : Int)) 49 23 = ((c + (d + 1) : Nat) : Int) := rfl
    have e14 : rI (gI g 49 23 ((c + (d + 1) : Nat) : Int)) 49 14 = (s : Int) := h14
    have e67 : rA (gI g 49 23 ((c + (d + 1) : Nat) : Int)) 67 (((c + (d + 1) : Nat) : Int) - 1) = g.2.2.1 67 (c + d) := by
      show g.2.2.1 67 (((c + (d + 1) : Nat) : Int) - 1).toNat = _
      rw [show (((c + (d + 1) : Nat) : Int) - 1).toNat = c + d by omega]
    obtain ⟨y1, y2, y3⟩ := hf (c + d) (by omega)
    have hy : g.2.2.1 67 (c + d) = (s : Int) := Classical.byContradiction (fun z => by have := y3.mpr z; omega)
    rw [s_M_closeScope_50_2]
    unfold b_M_closeScope_50_2
    rw [e23, e14, if_pos (by omega), if_pos (by omega), if_pos (by omega), e67, if_pos (by omega), if_pos (by omega), if_pos hy, gI_gI, show ((((c + (d + 1) : Nat) : Int)) - 1) = ((c + d : Nat) : Int) by omega]
    exact a2
theorem m_closeScope {S : RSt} {g : G2} (hR : MRep S g) (hi : Iv S) (hs : S.stage = 0) (o : Int64 × Int64 × Int64 × Nat) (ho : S.out[S.out.length - 1]? = some o) : ∃ g', f_M_closeScope_50 g = some g' ∧ MRep (((((S.uVars o.1).uTyped o.2.1).uHyps o.2.2.1).uPrs (S.prs.take o.2.2.2)).uOut (S.out.take (S.out.length - 1))) g' ∧ (∀ ws, WM g ws → WM g' ws) ∧ rI g' 49 5 = rI g 49 5 ∧ rI g' 49 6 = rI g 49 6 ∧ rI g' 49 7 = rI g 49 7 := by
  obtain ⟨⟨⟨n1, n2⟩, ⟨s1, s2⟩, ⟨t1, t2⟩⟩, ⟨x1, xv, xh, ⟨xp, P, xp1, xp2, xp3, xp4⟩⟩, _, _, _, _⟩ := hR
  have n60 := hi.1.1
  have m40 : S.sms.length ≤ 40 := hi.1.2.1
  have o6 : S.out.length ≤ 6 := hi.1.2.2.2.1
  have p40 : S.prs.length ≤ 40 := hi.1.2.2.2.2.1
  have hlt := lt_get ho
  obtain ⟨fr, hcn, hmo⟩ := hi.2.2.2.1.2 _ o ho
  have hb : ∀ x : Bool, b01 x = 0 ∨ b01 x = 1 := fun x => by cases x <;> simp
  have hb1 : ∀ x : Bool, b01 x = 1 ↔ x = true := fun x => by cases x <;> simp
  obtain ⟨m1, g1, a1, a2, a3, a4, a5⟩ := m_close0 S.nms.length S.out.length n60 o6 (fun v => tb o.1 v) S.nms.length 20000 0 g (by omega) (by omega) n1 x1 (fun v _ hv => by
    obtain ⟨y1, y2, y3⟩ := xv v hv
    have y4 := y3 _ o ho
    rw [y1]
    refine ⟨hb _, fun z => y2 ((hb1 _).mp z), ?_⟩
    rw [y4, hb1]
    constructor
    · rintro ⟨z1, z2⟩; exact ⟨z1, by omega⟩
    · rintro ⟨z1, z2⟩; exact ⟨z1, by omega⟩)
  obtain ⟨m2, g2, b1, b2, b3, b4, b5⟩ := m_close1 S.sms.length S.out.length m40 o6 (fun v => tb o.2.2.1 v) S.sms.length m1 0 g1 (by omega) (by omega) (by rw [show rI g1 49 15 = rI g 49 15 from congrFun (a3 49 (by decide)).1 15]; exact s1) (by rw [show rI g1 49 14 = rI g 49 14 from congrFun (a3 49 (by decide)).1 14]; exact x1) (fun v _ hv => by
    obtain ⟨y1, y2, y3⟩ := xh v hv
    have y4 := y3 _ o ho
    rw [(a3 62 (by decide)).2.2.1, (a3 63 (by decide)).2.2.1, y1]
    refine ⟨hb _, fun z => y2 ((hb1 _).mp z), ?_⟩
    rw [y4, hb1]
    constructor
    · rintro ⟨z1, z2⟩; exact ⟨z1, by omega⟩
    · rintro ⟨z1, z2⟩; exact ⟨z1, by omega⟩)
  have k49 : ∀ q, rI g2 49 q = rI g 49 q := fun q => (congrFun (b3 49 (by decide)).1 q).trans (congrFun (a3 49 (by decide)).1 q)
  have kA : ∀ r, r ≠ 55 → r ≠ 62 → g2.2.2.1 r = g.2.2.1 r := fun r h1 h2 => ((b3 r h2).2.2.1).trans ((a3 r h1).2.2.1)
  have kB : ∀ r, r ≠ 55 → r ≠ 62 → g2.2.2.2 r = g.2.2.2 r := fun r h1 h2 => ((b3 r h2).2.2.2).trans ((a3 r h1).2.2.2)
  obtain ⟨z1, z2⟩ := xp4 _ o ho
  obtain ⟨m3, c1, c2⟩ := m_close2 S.out.length o.2.2.2 o6 g2 ((k49 14).trans x1) (S.prs.length - o.2.2.2) m2 (by omega) (by omega) (fun i hi' => by
    obtain ⟨p, hp⟩ := ex_get (l := P) (k := i) (by omega)
    obtain ⟨w1, w2, w3, w4⟩ := xp2 i p hp
    have w5 := z1 i p hp
    rw [kA 67 (by decide) (by decide), w3]
    refine ⟨by omega, by omega, ?_⟩
    rw [w5]
    constructor
    · intro q; omega
    · intro q; omega)
  rw [show o.2.2.2 + (S.prs.length - o.2.2.2) = S.prs.length by omega] at c2
  have e23 : gI g2 49 23 (S.prs.length : Int) = g2 := by
    have := gI_id g2 49 23
    rw [(k49 23).trans xp] at this
    exact this
  rw [e23] at c2
  obtain ⟨m3, rfl⟩ : ∃ m', m3 = m' + 1 := ⟨m3 - 1, by omega⟩
  refine ⟨gI (gI g2 49 23 (o.2.2.2 : Int)) 49 14 ((rI (gI g2 49 23 (o.2.2.2 : Int)) 49 14) - 1), ?_, ?_, ?_, k49 5, k49 6, k49 7⟩
  · unfold f_M_closeScope_50
    have a2' : l_M_closeScope_50 20000 0 0 g = l_M_closeScope_50 m1 1 0 g1 := a2
    have b2' : l_M_closeScope_50 m1 1 0 g1 = l_M_closeScope_50 m2 2 0 g2 := b2
    rw [a2', b2', c2, s_M_closeScope_50_3]
    rfl
  · have htk : ∀ (t : Nat) (q : Int64 × Int64 × Int64 × Nat), (S.out.take (S.out.length - 1))[t]? = some q → S.out[t]? = some q ∧ t < S.out.length - 1 := fun t q hq => by
      have := lt_get hq
      rw [List.length_take] at this
      rw [List.getElem?_take, if_pos (by omega)] at hq
      exact ⟨hq, by omega⟩
    have hol : (S.out.take (S.out.length - 1)).length = S.out.length - 1 := by rw [List.length_take]; omega
    refine ⟨⟨⟨(k49 8).trans n1, fun i x hx => ?_⟩, ⟨(k49 15).trans s1, fun k s hk => ?_⟩, ⟨(k49 27).trans t1, fun j x hx => ?_⟩⟩, ⟨?_, fun v hv => ?_, fun k hk => ?_, ⟨?_, P.take o.2.2.2, ?_, fun i p hp => ?_, z2, fun t q hq => ?_⟩⟩, fun z => ?_, fun z => ?_, fun z => ?_, fun z => ?_⟩
    · show g2.2.2.2 53 i = _ ∧ g2.2.2.1 54 i = _ ∧ g2.2.2.1 57 i = _
      rw [kB 53 (by decide) (by decide), kA 54 (by decide) (by decide), kA 57 (by decide) (by decide)]
      exact n2 i x hx
    · show g2.2.2.1 58 k = _ ∧ (∃ d x, _ ∧ g2.2.2.1 59 k = _ ∧ _) ∧ g2.2.2.1 61 k = _ ∧ RowAt (g2.2.2.1 60) _ _ ∧ g2.2.2.1 64 k = _
      rw [kA 58 (by decide) (by decide), kA 59 (by decide) (by decide), kA 61 (by decide) (by decide), kA 60 (by decide) (by decide), kA 64 (by decide) (by decide)]
      exact s2 k s hk
    · have := t2 j x hx
      unfold MAs NdAt PrAt at this ⊢
      show g2.2.2.1 68 j = _ ∧ (∃ s, _ ∧ g2.2.2.1 70 j = _ ∧ ∀ i h, _ → g2.2.2.1 69 (40 * j + i) = _) ∧ (∃ L : List (Nat × Nat), g2.2.2.1 73 j = _ ∧ (∀ u p, _ → g2.2.2.1 71 (40 * j + u) = _ ∧ g2.2.2.1 72 (40 * j + u) = _) ∧ _ ∧ _) ∧ g2.2.2.1 74 j = _ ∧ g2.2.2.1 75 j = _ ∧ (∀ i, _ → g2.2.2.1 76 (40 * j + i) = _) ∧ g2.2.2.1 77 j = _ ∧ g2.2.2.1 78 j = _
      rw [kA 68 (by decide) (by decide), kA 70 (by decide) (by decide), kA 69 (by decide) (by decide), kA 73 (by decide) (by decide), kA 71 (by decide) (by decide), kA 72 (by decide) (by decide), kA 74 (by decide) (by decide), kA 75 (by decide) (by decide), kA 76 (by decide) (by decide), kA 77 (by decide) (by decide), kA 78 (by decide) (by decide)]
      exact this
    · show rI g2 49 14 - 1 = ((S.out.take (S.out.length - 1)).length : Int)
      rw [hol, k49 14, x1]; omega
    · have hv2 : v < S.nms.length := hv
      obtain ⟨y1, y2, y3⟩ := xv v hv2
      have y4 := y3 _ o ho
      show g2.2.2.1 55 v = b01 (tb o.1 v) ∧ (tb o.1 v = true → 0 ≤ g2.2.2.1 56 v ∧ g2.2.2.1 56 v ≤ ((S.out.take (S.out.length - 1)).length : Int)) ∧ ∀ (t : Nat) (q : Int64 × Int64 × Int64 × Nat), (S.out.take (S.out.length - 1))[t]? = some q → (tb q.1 v = true ↔ tb o.1 v = true ∧ g2.2.2.1 56 v ≤ (t : Int))
      rw [(b3 55 (by decide)).2.2.1, a5 v (by omega) hv2, kA 56 (by decide) (by decide), hol]
      refine ⟨rfl, fun z => ?_, fun t q hq => ?_⟩
      · obtain ⟨w1, w2⟩ := y4.mp z
        exact ⟨(y2 w1).1, by omega⟩
      · obtain ⟨w1, w2⟩ := htk t q hq
        rw [y3 t q w1, y4]
        constructor
        · rintro ⟨v1, v2⟩; exact ⟨⟨v1, by omega⟩, v2⟩
        · rintro ⟨⟨v1, _⟩, v2⟩; exact ⟨v1, v2⟩
    · have hk2 : k < S.sms.length := hk
      obtain ⟨y1, y2, y3⟩ := xh k hk2
      have y4 := y3 _ o ho
      show g2.2.2.1 62 k = b01 (tb o.2.2.1 k) ∧ (tb o.2.2.1 k = true → 0 ≤ g2.2.2.1 63 k ∧ g2.2.2.1 63 k ≤ ((S.out.take (S.out.length - 1)).length : Int)) ∧ ∀ (t : Nat) (q : Int64 × Int64 × Int64 × Nat), (S.out.take (S.out.length - 1))[t]? = some q → (tb q.2.2.1 k = true ↔ tb o.2.2.1 k = true ∧ g2.2.2.1 63 k ≤ (t : Int))
      rw [b5 k (by omega) hk2, kA 63 (by decide) (by decide), hol]
      refine ⟨rfl, fun z => ?_, fun t q hq => ?_⟩
      · obtain ⟨w1, w2⟩ := y4.mp z
        exact ⟨(y2 w1).1, by omega⟩
      · obtain ⟨w1, w2⟩ := htk t q hq
        rw [y3 t q w1, y4]
        constructor
        · rintro ⟨v1, v2⟩; exact ⟨⟨v1, by omega⟩, v2⟩
        · rintro ⟨⟨v1, _⟩, v2⟩; exact ⟨v1, v2⟩
    · show (o.2.2.2 : Int) = ((S.prs.take o.2.2.2).length : Int)
      rw [List.length_take]; omega
    · show (P.take o.2.2.2).length = (S.prs.take o.2.2.2).length
      rw [List.length_take, List.length_take, xp1]
    · have hp2 := hp
      have hl := lt_get hp
      rw [List.length_take] at hl
      rw [List.getElem?_take, if_pos (by omega)] at hp2
      obtain ⟨w1, w2, w3, w4⟩ := xp2 i p hp2
      have w5 := (z1 i p hp2).mp (by omega)
      show g2.2.2.1 65 i = _ ∧ g2.2.2.1 66 i = _ ∧ g2.2.2.1 67 i = _ ∧ p.2.2 ≤ (S.out.take (S.out.length - 1)).length
      rw [kA 65 (by decide) (by decide), kA 66 (by decide) (by decide), kA 67 (by decide) (by decide), hol]
      exact ⟨w1, w2, w3, w5⟩
    · obtain ⟨w1, w2⟩ := htk t q hq
      obtain ⟨v1, v2⟩ := xp4 t q w1
      have hqo : q.2.2.2 ≤ o.2.2.2 := (hi.2.2.2.1.2 t q w1).2.2 _ o ho (by omega)
      refine ⟨fun i p hp => ?_, fun x y => ?_⟩
      · have hp2 := hp
        have hl := lt_get hp
        rw [List.length_take] at hl
        rw [List.getElem?_take, if_pos (by omega)] at hp2
        exact v1 i p hp2
      · show (x, y) ∈ (S.prs.take o.2.2.2).take q.2.2.2 ↔ ∃ z, (x, y, z) ∈ (P.take o.2.2.2).take q.2.2.2
        rw [List.take_take, List.take_take, Nat.min_eq_left hqo]
        exact v2 x y
    · have z2 : S.stage = 3 := z
      omega
    · have z2 : S.stage = 6 ∨ S.stage = 7 ∨ 9 ≤ S.stage := z
      omega
    · have z2 : 10 ≤ S.stage := z
      omega
    · have z2 : 12 ≤ S.stage := z
      omega
  · intro ws hw
    unfold WM at hw ⊢
    show rI g2 49 4 = _ ∧ _ ∧ ∀ j l, _ → _ ∧ ∃ b : Nat, g2.2.2.1 51 j = _ ∧ g2.2.2.1 52 j = _ ∧ _ ∧ ∀ i c, _ → g2.2.2.1 50 (b + i) = c
    rw [k49 4, kA 51 (by decide) (by decide), kA 52 (by decide) (by decide), kA 50 (by decide) (by decide)]
    exact hw
