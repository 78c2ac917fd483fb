theorem m_areL {g : G2} (P : List (Nat × Nat × Nat)) (h23 : rI g 49 23 = (P.length : Int)) (h40 : P.length ≤ 40) (hP : ∀ (i : Nat) (p : Nat × Nat × Nat), P[i]? = some p → g.2.2.1 65 i = (p.1 : Int) ∧ g.2.2.1 66 i = (p.2.1 : Int)) (h60 : ∀ p ∈ P, p.1 < 60 ∧ p.2.1 < 60) (u v : Nat) (hu : u < 60) (hv : v < 60) : ∀ (k m i : Nat), i + k = P.length → k < m → ∃ r : Int, l_M_areApart_50 m 0 (u : Int) (v : Int) (i : Int) g = some (r, g) ∧ (r = 0 ∨ r = 1) ∧ (r ≠ 0 ↔ ∃ p ∈ P.drop i, (p.1 = u ∧ p.2.1 = v) ∨ (p.1 = v ∧ p.2.1 = u)) := by
  intro k
  induction k with
  | zero =>
    intro m i hi hm
    obtain ⟨m, rfl⟩ : ∃ m', m = m' + 1 := ⟨m - 1, by omega⟩
    refine ⟨0, ?_, Or.inl rfl, ?_⟩
    · rw [s_M_areApart_50_0]
      unfold b_M_areApart_50_0
      rw [if_pos (by omega), if_pos (by omega), if_neg (by omega)]
    · rw [List.drop_eq_nil_of_le (by omega)]; simp
  | succ k ih =>
    intro m i hi hm
    obtain ⟨m, rfl⟩ : ∃ m', m = m' + 1 := ⟨m - 1, by omega⟩
    obtain ⟨p, hp⟩ := ex_get (l := P) (k := i) (by omega)
    obtain ⟨w1, w2⟩ := hP i p hp
    have h6 := h60 p (List.mem_of_getElem? hp)
    have e65 : rA g 65 ((i : Nat) : Int) = (p.1 : Int) := w1
    have e66 : rA g 66 ((i : Nat) : Int) = (p.2.1 : Int) := w2
    obtain ⟨r, a1, a2, a3⟩ := ih m (i + 1) (by omega) (by omega)
    have t1 : ((i : Int) + 1) = ((i + 1 : Nat) : Int) := rfl
    have yes : ((p.1 = u ∧ p.2.1 = v) ∨ (p.1 = v ∧ p.2.1 = u)) → ∃ r : Int, some ((1 : Int), g) = some (r, g) ∧ (r = 0 ∨ r = 1) ∧ (r ≠ 0 ↔ ∃ p ∈ P.drop i, (p.1 = u ∧ p.2.1 = v) ∨ (p.1 = v ∧ p.2.1 = u)) := fun h => ⟨1, rfl, Or.inr rfl, ⟨fun _ => ⟨p, by rw [drop_eq hp]; simp, h⟩, fun _ => by decide⟩⟩
    have no : ¬ ((p.1 = u ∧ p.2.1 = v) ∨ (p.1 = v ∧ p.2.1 = u)) → ∃ r : Int, l_M_areApart_50 m 0 (u : Int) (v : Int) ((i : Int) + 1) g = some (r, g) ∧ (r = 0 ∨ r = 1) ∧ (r ≠ 0 ↔ ∃ p ∈ P.drop i, (p.1 = u ∧ p.2.1 = v) ∨ (p.1 = v ∧ p.2.1 = u)) := by
      intro h
      refine ⟨r, by rw [t1]; exact a1, a2, ?_⟩
      rw [a3, drop_eq hp]
      constructor
      · rintro ⟨x, x1, x2⟩; exact ⟨x, by simp [x1], x2⟩
      · rintro ⟨x, x1, x2⟩
        rcases List.mem_cons.mp x1 with x1 | x1
        · rw [x1] at x2; exact absurd x2 h
        · exact ⟨x, x1, x2⟩
    rw [s_M_areApart_50_0]
    unfold b_M_areApart_50_0
    rw [if_pos (by omega), if_pos (by omega), if_pos (by omega), if_pos (by omega), e65, e66, if_pos (by omega), if_pos (by omega)]
    by_cases q1 : p.1 = u
    · rw [if_pos (by omega), if_pos (by omega), if_pos (by omega)]
      by_cases q2 : p.2.1 = v
      · rw [if_pos (by omega)]; exact yes (Or.inl ⟨q1, q2⟩)
      · rw [if_neg (by omega)]
        by_cases q3 : p.1 = v
        · rw [if_pos (by omega)]
          by_cases q4 : p.2.1 = u
          · rw [if_pos (by omega)]; exact yes (Or.inr ⟨q3, q4⟩)
          · rw [if_neg (by omega)]; exact no (by omega)
        · rw [if_neg (by omega)]; exact no (by omega)
    · rw [if_neg (by omega), if_pos (by omega)]
      by_cases q3 : p.1 = v
      · rw [if_pos (by omega), if_pos (by omega)]
        by_cases q4 : p.2.1 = u
        · rw [if_pos (by omega)]; exact yes (Or.inr ⟨q3, q4⟩)
        · rw [if_neg (by omega)]; exact no (by omega)
      · rw [if_neg (by omega)]; exact no (by omega)
/-- a pair of symbols that may stand together -/
def okP (S : RSt) (u v : Nat) : Prop := rol S u = 1 → rol S v = 1 → u ≠ v ∧ ((u, v) ∈ S.prs ∨ (v, u) ∈ S.prs)
theorem m_areApart {S : RSt} {g : G2} (hi : Iv S) (hp : MPr S g) (u v : Nat) (hu : u < 60) (hv : v < 60) : ∃ r : Int, f_M_areApart_50 (u : Int) (v : Int) g = some (r, g) ∧ (r = 0 ∨ r = 1) ∧ (r ≠ 0 ↔ (u, v) ∈ S.prs ∨ (v, u) ∈ S.prs) := by
  obtain ⟨xp, P, xp1, xp2, xp3, xp4⟩ := hp
  have n60 := hi.1.1
  have p40 : S.prs.length ≤ 40 := hi.1.2.2.2.2.1
  obtain ⟨r, a1, a2, a3⟩ := m_areL (g := g) P (by rw [xp, xp1]) (by omega) (fun i p hp => ⟨(xp2 i p hp).1, (xp2 i p hp).2.1⟩) (fun p hp => by
    have := prs60 hi _ ((xp3 p.1 p.2.1).mpr ⟨p.2.2, hp⟩)
    exact this) u v hu hv P.length 20000 0 (by omega) (by omega)
  refine ⟨r, a1, a2, ?_⟩
  rw [a3, List.drop_zero, xp3 u v, xp3 v u]
  constructor
  · rintro ⟨p, p1, ⟨p2, p3⟩ | ⟨p2, p3⟩⟩
    · left; rw [← p2, ← p3]; exact ⟨p.2.2, p1⟩
    · right; rw [← p2, ← p3]; exact ⟨p.2.2, p1⟩
  · rintro (⟨z, hz⟩ | ⟨z, hz⟩)
    · exact ⟨_, hz, Or.inl ⟨rfl, rfl⟩⟩
    · exact ⟨_, hz, Or.inr ⟨rfl, rfl⟩⟩
theorem m_allL {S : RSt} {g : G2} (hi : Iv S) (hN : MN S g) (hp : MPr S g) (p q : Nat) (hp16 : p < 16) (hq16 : q < 16) (e f : List Nat) (he83 : g.2.2.1 83 p = (e.length : Int)) (hf83 : g.2.2.1 83 q = (f.length : Int)) (he : RowAt (g.2.2.1 82) (24 * p) e) (hf : RowAt (g.2.2.1 82) (24 * q) f) (he24 : e.length ≤ 24) (hf24 : f.length ≤ 24) (hen : ∀ v ∈ e, v < S.nms.length) (hfn : ∀ v ∈ f, v < S.nms.length) : ∀ (d k i j m : Nat), i + d = e.length → j + k = f.length ∧ 1 ≤ j → i < e.length ∨ k = 0 → 60 * d + 2 * k + 3 < m → ∃ r : Int, (if i < e.length then l_M_allApart_50 m 1 (p : Int) (q : Int) (i : Int) (j : Int) g else l_M_allApart_50 m 0 (p : Int) (q : Int) (i : Int) 0 g) = some (r, g) ∧ ((r = 1 ∧ (∀ u v, e[i]? = some u → v ∈ f.drop j → okP S u v) ∧ ∀ u ∈ e.drop (i + 1), ∀ v ∈ f.drop 1, okP S u v) ∨ (r = 0 ∧ ¬ ((∀ u v, e[i]? = some u → v ∈ f.drop j → okP S u v) ∧ ∀ u ∈ e.drop (i + 1), ∀ v ∈ f.drop 1, okP S u v))) := by
  have n60 := hi.1.1
  have ee : rA g 83 ((p : Nat) : Int) = (e.length : Int) := he83
  have ef : rA g 83 ((q : Nat) : Int) = (f.length : Int) := hf83
  intro d
  induction d with
  | zero =>
    intro k i j m hid hjk hor hm
    obtain ⟨m, rfl⟩ : ∃ m', m = m' + 1 := ⟨m - 1, by omega⟩
    rw [if_neg (by omega), s_M_allApart_50_0]
    unfold b_M_allApart_50_0
    rw [if_pos (by omega), if_pos (by omega), ee, if_pos (by omega), if_neg (by omega)]
    refine ⟨1, rfl, Or.inl ⟨rfl, fun u v h1 => ?_, fun u hu => ?_⟩⟩
    · rw [List.getElem?_eq_none (by omega)] at h1; cases h1
    · rw [List.drop_eq_nil_of_le (by omega)] at hu; cases hu
  | succ d ihd =>
    intro k
    induction k with
    | zero =>
      intro i j m hid hjk hor hm
      obtain ⟨m, rfl⟩ : ∃ m', m = m' + 2 := ⟨m - 2, by omega⟩
      have t1 : ((i : Int) + 1) = ((i + 1 : Nat) : Int) := rfl
      rw [if_pos (by omega), show m + 2 = (m + 1) + 1 by omega, s_M_allApart_50_1]
      unfold b_M_allApart_50_1
      rw [if_pos (by omega), if_pos (by omega), ef, if_pos (by omega), if_neg (by omega), t1]
      have hfd : f.drop j = [] := List.drop_eq_nil_of_le (by omega)
      by_cases hi1 : i + 1 < e.length
      · have e0 : l_M_allApart_50 (m + 1) 0 (p : Int) (q : Int) ((i + 1 : Nat) : Int) 0 g = l_M_allApart_50 m 1 (p : Int) (q : Int) ((i + 1 : Nat) : Int) 1 g := by
          rw [s_M_allApart_50_0]
          unfold b_M_allApart_50_0
          rw [if_pos (by omega), if_pos (by omega), ee, if_pos (by omega), if_pos (by omega)]
        rw [e0]
        by_cases hf1 : 1 ≤ f.length
        · obtain ⟨r, a1, a2⟩ := ihd (f.length - 1) (i + 1) 1 m (by omega) ⟨by omega, Nat.le_refl 1⟩ (Or.inl hi1) (by omega)
          rw [if_pos hi1] at a1
          refine ⟨r, a1, ?_⟩
          obtain ⟨x, hx⟩ := ex_get hi1
          have key : ((∀ u v, e[i + 1]? = some u → v ∈ f.drop 1 → okP S u v) ∧ ∀ u ∈ e.drop (i + 1 + 1), ∀ v ∈ f.drop 1, okP S u v) ↔ ((∀ u v, e[i]? = some u → v ∈ f.drop j → okP S u v) ∧ ∀ u ∈ e.drop (i + 1), ∀ v ∈ f.drop 1, okP S u v) := by
            rw [hfd, drop_eq hx]
            constructor
            · rintro ⟨y1, y2⟩
              refine ⟨(fun u v _ hv => by cases hv), fun u hu v hv => ?_⟩
              rcases List.mem_cons.mp hu with hu | hu
              · exact y1 u v (by rw [hu]; exact hx) hv
              · exact y2 u hu v hv
            · rintro ⟨_, y2⟩
              refine ⟨fun u v hu hv => ?_, fun u hu v hv => y2 u (List.mem_cons_of_mem _ hu) v hv⟩
              rw [hx] at hu
              injection hu with hu
              exact y2 u (by rw [← hu]; simp) v hv
          rcases a2 with ⟨b1, b2⟩ | ⟨b1, b2⟩
          · exact Or.inl ⟨b1, key.mp b2⟩
          · exact Or.inr ⟨b1, fun z => b2 (key.mpr z)⟩
        · omega
      · have e0 : l_M_allApart_50 (m + 1) 0 (p : Int) (q : Int) ((i + 1 : Nat) : Int) 0 g = some (1, g) := by
          rw [s_M_allApart_50_0]
          unfold b_M_allApart_50_0
          rw [if_pos (by omega), if_pos (by omega), ee, if_pos (by omega), if_neg (by omega)]
        rw [e0]
        refine ⟨1, rfl, Or.inl ⟨rfl, fun u v _ hv => ?_, fun u hu => ?_⟩⟩
        · rw [hfd] at hv; cases hv
        · rw [List.drop_eq_nil_of_le (by omega)] at hu; cases hu
    | succ k ihk =>
      intro i j m hid hjk hor hm
      obtain ⟨m, rfl⟩ : ∃ m', m = m' + 2 := ⟨m - 2, by omega⟩
      have hie : i < e.length := by omega
      obtain ⟨x, hx⟩ := ex_get hie
      obtain ⟨y, hy⟩ := ex_get (l := f) (k := j) (by omega)
      have hxn := hen x (List.mem_of_getElem? hx)
      have hyn := hfn y (List.mem_of_getElem? hy)
      obtain ⟨xn, hxn'⟩ := ex_get hxn
      obtain ⟨yn, hyn'⟩ := ex_get hyn
      have rx := (hi.2.1 x xn hxn').1
      have ry := (hi.2.1 y yn hyn').1
      have e1 : rA g 82 ((24 * (p : Int)) + (i : Int)) = (x : Int) := by
        show g.2.2.1 82 ((24 * (p : Int)) + (i : Int)).toNat = _
        rw [show ((24 * (p : Int)) + (i : Int)).toNat = 24 * p + i by omega]; exact he i x hx
      have e2 : rA g 82 ((24 * (q : Int)) + (j : Int)) = (y : Int) := by
        show g.2.2.1 82 ((24 * (q : Int)) + (j : Int)).toNat = _
        rw [show ((24 * (q : Int)) + (j : Int)).toNat = 24 * q + j by omega]; exact hf j y hy
      have e54x : rA g 54 ((x : Nat) : Int) = (((xn.role + 1) % 3 : Nat) : Int) := (hN.2 x xn hxn').2.1
      have e54y : rA g 54 ((y : Nat) : Int) = (((yn.role + 1) % 3 : Nat) : Int) := (hN.2 y yn hyn').2.1
      have hrx := rol_get hxn'
      have hry := rol_get hyn'
      rw [if_pos hie, show m + 2 = (m + 1) + 1 by omega, s_M_allApart_50_1]
      unfold b_M_allApart_50_1
      rw [if_pos (by omega), if_pos (by omega), ef, if_pos (by omega), if_pos (by omega), if_pos (by omega), if_pos (by omega), e1, if_pos (by omega), e54x, if_pos (by omega)]
      have t3 : l_M_allApart_50 (m + 1) 3 (p : Int) (q : Int) (i : Int) (j : Int) g = l_M_allApart_50 m 1 (p : Int) (q : Int) (i : Int) ((j + 1 : Nat) : Int) g := by
        rw [s_M_allApart_50_3]
        rfl
      have bad : ¬ okP S x y → ∃ r : Int, l_M_allApart_50 (m + 1) 2 0 0 0 0 g = some (r, g) ∧ ((r = 1 ∧ (∀ u v, e[i]? = some u → v ∈ f.drop j → okP S u v) ∧ ∀ u ∈ e.drop (i + 1), ∀ v ∈ f.drop 1, okP S u v) ∨ (r = 0 ∧ ¬ ((∀ u v, e[i]? = some u → v ∈ f.drop j → okP S u v) ∧ ∀ u ∈ e.drop (i + 1), ∀ v ∈ f.drop 1, okP S u v))) := by
        intro h
        refine ⟨0, by rw [s_M_allApart_50_2]; rfl, Or.inr ⟨rfl, fun z => h (z.1 x y hx (by rw [drop_eq hy]; simp))⟩⟩
      have nx : okP S x y → ∃ r : Int, l_M_allApart_50 (m + 1) 3 (p : Int) (q : Int) (i : Int) (j : Int) g = some (r, g) ∧ ((r = 1 ∧ (∀ u v, e[i]? = some u → v ∈ f.drop j → okP S u v) ∧ ∀ u ∈ e.drop (i + 1), ∀ v ∈ f.drop 1, okP S u v) ∨ (r = 0 ∧ ¬ ((∀ u v, e[i]? = some u → v ∈ f.drop j → okP S u v) ∧ ∀ u ∈ e.drop (i + 1), ∀ v ∈ f.drop 1, okP S u v))) := by
        intro h
        obtain ⟨r, a1, a2⟩ := ihk i (j + 1) m hid ⟨by omega, by omega⟩ (Or.inl hie) (by omega)
        rw [if_pos hie] at a1
        refine ⟨r, by rw [t3]; exact a1, ?_⟩
        have key : (∀ u v, e[i]? = some u → v ∈ f.drop (j + 1) → okP S u v) ↔ (∀ u v, e[i]? = some u → v ∈ f.drop j → okP S u v) := by
          rw [drop_eq hy]
          constructor
          · intro z u v hu hv
            rcases List.mem_cons.mp hv with hv | hv
            · rw [hx] at hu
              injection hu with hu
              rw [← hu, hv]; exact h
            · exact z u v hu hv
          · intro z u v hu hv
            exact z u v hu (List.mem_cons_of_mem _ hv)
        rw [key] at a2
        exact a2
      by_cases rx1 : xn.role = 1
      · rw [if_pos (by rw [rx1]; rfl), e2, if_pos (by omega), e54y, if_pos (by omega)]
        by_cases ry1 : yn.role = 1
        · rw [if_pos (by rw [ry1]; rfl), if_pos (by omega), if_pos (by omega)]
          by_cases hxy : x = y
          · rw [if_pos (by omega)]
            exact bad (fun z => (z (by rw [hrx]; exact rx1) (by rw [hry]; exact ry1)).1 hxy)
          · obtain ⟨r, a1, a2, a3⟩ := m_areApart hi hp x y (by omega) (by omega)
            rw [if_neg (by omega), bd_some a1, if_pos (by omega)]
            by_cases hr : r = 0
            · rw [if_pos hr]
              exact bad (fun z => (a3.mpr (z (by rw [hrx]; exact rx1) (by rw [hry]; exact ry1)).2) hr)
            · rw [if_neg hr]
              exact nx (fun _ _ => ⟨hxy, a3.mp hr⟩)
        · rw [if_neg (by omega)]
          exact nx (fun _ z => absurd (by rw [← hry]; exact z) ry1)
      · rw [if_neg (by omega)]
        exact nx (fun z _ => absurd (by rw [← hrx]; exact z) rx1)
/-- both ways of saying that two rows are apart -/
theorem apart_iff {S : RSt} (hi : Iv S) {e f : List Nat × Int64} (he : RowOk S e.1 ∧ MK S e.1 e.2) (hf : RowOk S f.1 ∧ MK S f.1 f.2) : apartS S e.2 f.2 ↔ ∀ u ∈ e.1.drop 1, ∀ v ∈ f.1.drop 1, okP S u v := by
  have n60 := hi.1.1
  have hap := ap_iff S.prs (prs60 hi)
  have tl : ∀ {e : List Nat × Int64}, RowOk S e.1 → ∀ v, v ∈ e.1 → rol S v = 1 → v ∈ e.1.drop 1 := by
    intro e he v hv hr
    cases h : e.1 with
    | nil => rw [h] at hv; cases hv
    | cons c l =>
      rw [h] at hv
      rcases List.mem_cons.mp hv with hv | hv
      · have := he.2.2.2 c (by rw [h]; rfl)
        rw [hv] at hr; omega
      · exact hv
  constructor
  · intro h u hu v hv hru hrv
    have hu1 := List.mem_of_mem_drop hu
    have hv1 := List.mem_of_mem_drop hv
    have un := (he.1.2.2.1 u hu1).1
    have vn := (hf.1.2.2.1 v hv1).1
    have := h u (by omega) ((he.2 u (by omega)).mpr ⟨hu1, hru⟩) v (by omega) ((hf.2 v (by omega)).mpr ⟨hv1, hrv⟩)
    have h2 := (hap u v (by omega) (by omega)).mp this
    refine ⟨fun z => ?_, h2⟩
    rcases h2 with h2 | h2
    · exact (hi.2.2.2.2.1 _ h2).1 z
    · exact (hi.2.2.2.2.1 _ h2).1 z.symm
  · intro h u hu hbu v hv hbv
    obtain ⟨u1, u2⟩ := (he.2 u (by omega)).mp hbu
    obtain ⟨v1, v2⟩ := (hf.2 v (by omega)).mp hbv
    exact (hap u v hu hv).mpr (h u (tl he.1 u u1 u2) v (tl hf.1 v v1 v2) u2 v2).2
theorem m_allApart {S : RSt} {g : G2} (hi : Iv S) (hN : MN S g) (hp : MPr S g) (h83 : StkM (g.2.2.1 82) (g.2.2.1 83) S.stk) (h16 : S.stk.length ≤ 16) (hst : StOk S S.stk) (p q : Nat) (hpl : p < S.stk.length) (hql : q < S.stk.length) : ∃ r : Int, f_M_allApart_50 (p : Int) (q : Int) g = some (r, g) ∧ ((r = 1 ∧ apartS S (stV S p) (stV S q)) ∨ (r = 0 ∧ ¬ apartS S (stV S p) (stV S q))) := by
  obtain ⟨e, he⟩ := ex_get hpl
  obtain ⟨f, hf⟩ := ex_get hql
  obtain ⟨e1, e2⟩ := h83 p e he
  obtain ⟨f1, f2⟩ := h83 q f hf
  obtain ⟨oe, me⟩ := hst e (List.mem_of_getElem? he)
  obtain ⟨of', mf⟩ := hst f (List.mem_of_getElem? hf)
  have v1 : stV S p = e.2 := by unfold stV; rw [he]; rfl
  have v2 : stV S q = f.2 := by unfold stV; rw [hf]; rfl
  rw [v1, v2, apart_iff hi ⟨oe, me⟩ ⟨of', mf⟩]
  have oe1 := oe.1
  have oe2 := oe.2.1
  have of1 := of'.1
  have of2 := of'.2.1
  have ee : rA g 83 ((p : Nat) : Int) = (e.1.length : Int) := e2
  unfold f_M_allApart_50
  rw [show (20000 : Nat) = 19999 + 1 from rfl, s_M_allApart_50_0]
  unfold b_M_allApart_50_0
  rw [if_pos (by omega), if_pos (by decide), ee, if_pos (by omega)]
  by_cases h1 : 1 < e.1.length
  · rw [if_pos (by omega)]
    obtain ⟨r, a1, a2⟩ := m_allL hi hN hp p q (by omega) (by omega) e.1 f.1 e2 f2 e1 f1 oe2 of2 (fun v hv => (oe.2.2.1 v hv).1) (fun v hv => (of'.2.2.1 v hv).1) (e.1.length - 1) (f.1.length - 1) 1 1 19999 (by omega) ⟨by omega, Nat.le_refl 1⟩ (Or.inl h1) (by omega)
    rw [if_pos h1] at a1
    refine ⟨r, a1, ?_⟩
    obtain ⟨x, hx⟩ := ex_get h1
    have key : ((∀ u v, e.1[1]? = some u → v ∈ f.1.drop 1 → okP S u v) ∧ ∀ u ∈ e.1.drop (1 + 1), ∀ v ∈ f.1.drop 1, okP S u v) ↔ ∀ u ∈ e.1.drop 1, ∀ v ∈ f.1.drop 1, okP S u v := by
      rw [drop_eq hx]
      constructor
      · rintro ⟨y1, y2⟩ u hu v hv
        rcases List.mem_cons.mp hu with hu | hu
        · exact y1 u v (by rw [hu]; exact hx) hv
        · exact y2 u hu v hv
      · intro y
        refine ⟨fun u v hu hv => ?_, fun u hu v hv => y u (List.mem_cons_of_mem _ hu) v hv⟩
        rw [hx] at hu
        injection hu with hu
        exact y u (by rw [← hu]; simp) v hv
    rw [key] at a2
    exact a2
  · rw [if_neg (by omega)]
    refine ⟨1, rfl, Or.inl ⟨rfl, fun u hu => ?_⟩⟩
    rw [List.drop_eq_nil_of_le (by omega)] at hu; cases hu
