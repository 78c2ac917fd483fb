theorem e_needed (g : G2) (j p : Nat) (hj : j < 40) (hp : p ≤ 40) (h73 : g.2.2.1 73 j = p) (x y : Nat) (hx : x < 60) (hy : y < 60) (hr : ∀ u : Nat, u < p → ir (g.2.2.1 71 (40 * j + u)) ∧ ir (g.2.2.1 72 (40 * j + u))) : ∀ k m i : Nat, i + k = p → k < m → ∀ r : Int, r = (if anyN (mpB g j x y) k i = true then 1 else 0) → l_M_isNeeded_50 m 0 (j : Int) x y ((40 * j + i : Nat) : Int) g = some (r, g) := by
  intro k
  induction k with
  | zero =>
    intro m i hi hm r hrr
    obtain ⟨m, rfl⟩ : ∃ m', m = m' + 1 := ⟨m - 1, by omega⟩
    rw [if_neg (by show ¬ (false = true); decide)] at hrr
    subst hrr
    rw [s_M_isNeeded_50_0]
    unfold b_M_isNeeded_50_0
    rw [if_pos (by omega), if_pos (by omega), show rA g 73 (j : Int) = g.2.2.1 73 j from rfl, h73, if_pos (by omega), if_neg (by omega)]
  | succ k ih =>
    intro m i hi hm r hrr
    obtain ⟨m, rfl⟩ : ∃ m', m = m' + 1 := ⟨m - 1, by omega⟩
    obtain ⟨v1, v2⟩ := hr i (by omega)
    have nxt : mpB g j x y i = false → l_M_isNeeded_50 m 0 (j : Int) x y (((40 * j + i : Nat) : Int) + 1) g = some (r, g) := fun hb => ih m (i + 1) (by omega) (by omega) r (by rw [hrr, anyN_no (by rw [hb]; decide)])
    have yes : mpB g j x y i = true → some ((1 : Int), g) = some (r, g) := fun hb => by rw [hrr, anyN_yes hb, if_pos rfl]
    rw [s_M_isNeeded_50_0]
    unfold b_M_isNeeded_50_0
    rw [if_pos (by omega), if_pos (by omega), show rA g 73 (j : Int) = g.2.2.1 73 j from rfl, h73, if_pos (by omega), if_pos (by omega), if_pos (by omega), show rA g 71 ((40 * j + i : Nat) : Int) = g.2.2.1 71 (40 * j + i) from rfl, show rA g 72 ((40 * j + i : Nat) : Int) = g.2.2.1 72 (40 * j + i) from rfl, if_pos v1, if_pos (show ir (x : Int) by omega)]
    have iy : ir (y : Int) := by omega
    unfold mpB at nxt yes
    generalize g.2.2.1 71 (40 * j + i) = A at *
    generalize g.2.2.1 72 (40 * j + i) = B at *
    by_cases h1 : A = x
    · rw [if_pos h1, if_pos v2, if_pos iy]
      by_cases h2 : B = y
      · rw [if_pos h2]
        exact yes (decide_eq_true (Or.inl ⟨h1, h2⟩))
      · rw [if_neg h2]
        by_cases h3 : A = y
        · rw [if_pos h3]
          by_cases h4 : B = x
          · rw [if_pos h4]
            exact yes (decide_eq_true (Or.inr ⟨h3, h4⟩))
          · rw [if_neg h4]
            exact nxt (decide_eq_false (fun h => h.elim (fun h => h2 h.2) (fun h => h4 h.2)))
        · rw [if_neg h3]
          exact nxt (decide_eq_false (fun h => h.elim (fun h => h2 h.2) (fun h => h3 h.1)))
    · rw [if_neg h1, if_pos iy]
      by_cases h3 : A = y
      · rw [if_pos h3, if_pos v2]
        by_cases h4 : B = x
        · rw [if_pos h4]
          exact yes (decide_eq_true (Or.inr ⟨h3, h4⟩))
        · rw [if_neg h4]
          exact nxt (decide_eq_false (fun h => h.elim (fun h => h1 h.1) (fun h => h4 h.2)))
      · rw [if_neg h3]
        exact nxt (decide_eq_false (fun h => h.elim (fun h => h1 h.1) (fun h => h3 h.1)))
theorem fndN_spec (f : Nat → Int64) (c : Int64) : ∀ k i, (fndN f c k i = -1 ∧ ∀ u, i ≤ u → u < i + k → f u ≠ c) ∨ ∃ u : Nat, fndN f c k i = (u : Int) ∧ i ≤ u ∧ u < i + k ∧ f u = c := by
  intro k
  induction k with
  | zero => intro i; exact Or.inl ⟨rfl, fun u h1 h2 => by omega⟩
  | succ k ih =>
    intro i
    by_cases h : f i = c
    · exact Or.inr ⟨i, by show (if f i = c then (i : Int) else _) = _; rw [if_pos h], by omega, by omega, h⟩
    · have e : fndN f c (k + 1) i = fndN f c k (i + 1) := by show (if f i = c then (i : Int) else _) = _; rw [if_neg h]
      rw [e]
      rcases ih (i + 1) with ⟨a, b⟩ | ⟨u, a, b, d, e⟩
      · refine Or.inl ⟨a, fun u h1 h2 => ?_⟩
        by_cases e : u = i
        · subst e; exact h
        · exact b u (by omega) (by omega)
      · exact Or.inr ⟨u, a, by omega, by omega, e⟩
theorem q_apart {g : G2} {n m a : Nat} (h0 : R0 g n m a) (h1 : R1 g n) (h6 : R6 g n a) (x : Int) (c d : Int64) (hx : ir x) : ∃ r, ir r ∧ f_L_apart_1 x c d g = some (r, g) ∧ f_M_apart_50 x c d g = some (r, g) := by
  obtain ⟨⟨n60, m40, a40⟩, ⟨t1, t2⟩, ⟨r1, r2⟩, ⟨s1, s2⟩⟩ := h0
  have fc := e_M_find g c n t2 n60
  have fd := e_M_find g d n t2 n60
  by_cases hin : 0 ≤ x ∧ x < (a : Int)
  · obtain ⟨j, rfl⟩ : ∃ j : Nat, x = (j : Int) := ⟨x.toNat, by omega⟩
    obtain ⟨p, p40, p1, p2, p3, p4, p5⟩ := h6 j (by omega)
    have hrC : ∀ u : Nat, u < p → 0 ≤ g.2.2.1 19 (40 * j + u) ∧ g.2.2.1 19 (40 * j + u) < 3600 := fun u hu => by
      obtain ⟨x, y, hx, hy, e⟩ := p3 u hu
      unfold CP at e
      omega
    have hrM : ∀ u : Nat, u < p → ir (g.2.2.1 71 (40 * j + u)) ∧ ir (g.2.2.1 72 (40 * j + u)) := fun u hu => by
      obtain ⟨x, y, hx, hy, e1, e2⟩ := p4 u hu
      rw [e1, e2]
      exact ⟨by omega, by omega⟩
    have hL : f_L_apart_1 (j : Int) c d g = some ((if anyN (cpB g j c d) p 0 = true then 1 else 0), g) := by
      unfold f_L_apart_1
      rw [bd_some (e_has1 g _ a s1 a40 hin), if_pos ir_1, if_neg n10]
      exact e_lapart g j p (by omega) p40 p1 c d hrC p 20000 0 (by omega) (by omega) _ rfl
    -- what a pair of the class says of two codes
    have dec : ∀ u x y : Nat, x < n → y < n → CP g j u x y → (g.2.2.1 19 (40 * j + u) / 60).toNat = x ∧ (g.2.2.1 19 (40 * j + u) % 60).toNat = y := fun u x y hx hy e => by
      unfold CP at e
      rw [e]
      exact ⟨by omega, by omega⟩
    have none' : (∀ u : Nat, u < n → g.2.2.2 53 u ≠ c) ∨ (∀ u : Nat, u < n → g.2.2.2 53 u ≠ d) → anyN (cpB g j c d) p 0 = false := fun hh => by
      apply Bool.eq_false_iff.mpr
      intro ht
      obtain ⟨u, _, hu, hb⟩ := (anyN_iff _ _ _).mp ht
      obtain ⟨x, y, hx, hy, e⟩ := p3 u (by omega)
      obtain ⟨d1, d2⟩ := dec u x y hx hy e
      have hb := of_decide_eq_true hb
      rw [d1, d2, (h1.1 x hx).1, (h1.1 y hy).1] at hb
      rcases hh with hh | hh
      · rcases hb with hb | hb
        · exact hh x hx hb.1
        · exact hh y hy hb.2
      · rcases hb with hb | hb
        · exact hh y hy hb.2
        · exact hh x hx hb.1
    refine ⟨_, ?_, hL, ?_⟩
    · split <;> decide
    unfold f_M_apart_50
    rw [bd_some fc, bd_some fd, bd_some (e_isA1 g _ a s2 a40 hin), if_pos ir_1, if_neg n10]
    rcases fndN_spec (g.2.2.2 53) c n 0 with ⟨ec, nc⟩ | ⟨xc, ec, _, lc, vc⟩
    · rw [ec, if_pos (by decide), if_pos (by decide), none' (Or.inl (fun u hu => nc u (by omega) (by omega))), if_neg (by decide)]
    rcases fndN_spec (g.2.2.2 53) d n 0 with ⟨ed, nd⟩ | ⟨xd, ed, _, ld, vd⟩
    · rw [ec, if_pos (by omega), if_neg (by omega), ed, if_pos (by decide), if_pos (by decide), none' (Or.inr (fun u hu => nd u (by omega) (by omega))), if_neg (by decide)]
    have hN : f_M_isNeeded_50 (j : Int) (xc : Int) (xd : Int) g = some ((if anyN (mpB g j xc xd) p 0 = true then 1 else 0), g) := by
      unfold f_M_isNeeded_50
      exact e_needed g j p (by omega) p40 p2 xc xd (by omega) (by omega) hrM p 20000 0 (by omega) (by omega) _ rfl
    rw [ec, if_pos (by omega), if_neg (by omega), ed, if_pos (by omega), if_neg (by omega), bd_some hN]
    have same : anyN (mpB g j xc xd) p 0 = anyN (cpB g j c d) p 0 := by
      apply Bool.eq_iff_iff.mpr
      rw [anyN_iff, anyN_iff]
      have inj := h1.2
      constructor
      · intro ⟨u, _, hu, hb⟩
        have hb0 := of_decide_eq_true hb
        have hb : MP g j u xc xd ∨ MP g j u xd xc := hb0
        obtain ⟨v, hv, hc⟩ := (p5 xc xd (by omega) (by omega)).mpr ⟨u, by omega, hb⟩
        refine ⟨v, by omega, by omega, decide_eq_true ?_⟩
        rcases hc with e | e
        · obtain ⟨d1, d2⟩ := dec v _ _ (by omega) (by omega) e
          rw [d1, d2, (h1.1 xc (by omega)).1, (h1.1 xd (by omega)).1]
          exact Or.inl ⟨vc, vd⟩
        · obtain ⟨d1, d2⟩ := dec v _ _ (by omega) (by omega) e
          rw [d1, d2, (h1.1 xc (by omega)).1, (h1.1 xd (by omega)).1]
          exact Or.inr ⟨vd, vc⟩
      · intro ⟨u, _, hu, hb⟩
        obtain ⟨x, y, hx', hy', e⟩ := p3 u (by omega)
        obtain ⟨d1, d2⟩ := dec u x y hx' hy' e
        have hb := of_decide_eq_true hb
        rw [d1, d2] at hb
        have kc : g.2.2.2 4 xc = c := (h1.1 xc (by omega)).1.trans vc
        have kd : g.2.2.2 4 xd = d := (h1.1 xd (by omega)).1.trans vd
        obtain ⟨v, hv, hm⟩ := (p5 xc xd (by omega) (by omega)).mp ⟨u, by omega, by
          rcases hb with ⟨b1, b2⟩ | ⟨b1, b2⟩
          · have z1 : x = xc := inj x xc hx' (by omega) (b1.trans kc.symm)
            have z2 : y = xd := inj y xd hy' (by omega) (b2.trans kd.symm)
            subst z1; subst z2; exact Or.inl e
          · have z1 : x = xd := inj x xd hx' (by omega) (b1.trans kd.symm)
            have z2 : y = xc := inj y xc hy' (by omega) (b2.trans kc.symm)
            subst z1; subst z2; exact Or.inr e⟩
        exact ⟨v, by omega, by omega, decide_eq_true hm⟩
    rw [same]
    by_cases hh : anyN (cpB g j c d) p 0 = true
    · rw [if_pos hh, if_pos ir_1, if_neg n10]
    · rw [if_neg hh, if_pos ir_0, if_pos rfl]
  · refine ⟨0, ir_0, ?_, ?_⟩
    · unfold f_L_apart_1
      rw [bd_some (e_has0 g x a s1 a40 hx hin), if_pos ir_0, if_pos rfl]
    · unfold f_M_apart_50
      rw [bd_some fc, bd_some fd, bd_some (e_isA0 g x a s2 a40 hx hin), if_pos ir_0, if_pos rfl]
