/-! ===== the model: what an assertion needs ===== -/
def OC (S : RSt) (g : G2) (f : Nat → Bool) : Prop := ∀ v : Nat, v < S.nms.length → g.2.2.1 80 v = b01 (f v)
/-- one symbol is marked -/
theorem oc_step {S : RSt} {g : G2} {f : Nat → Bool} (h : OC S g f) (x : Nat) (hx : x < S.nms.length) (w : Int) (hw : w = b01 (f x || decide (rol S x = 1))) : OC S (gA g 80 (x : Int) w) (fun v => f v || (decide (v = x) && decide (rol S v = 1))) := by
  intro v hv
  show am_upd (g.2.2.1 80) x w v = _
  by_cases q : v = x
  · subst q; rw [updN_at, hw]; simp
  · rw [am_updN q, h v hv]; simp [q]
theorem oc_congr {S : RSt} {g : G2} {f f' : Nat → Bool} (h : OC S g f) (e : ∀ v, v < S.nms.length → f v = f' v) : OC S g f' := fun v hv => by rw [h v hv, e v hv]
theorem m_markN {S : RSt} (hi : Iv S) (l : List Nat) (hl : ∀ v ∈ l, v < S.nms.length) (h24 : l.length ≤ 24) : ∀ (k m i : Nat) (g : G2) (f : Nat → Bool), i + k = l.length → k < m → MN S g → RowAt (g.2.2.1 79) 0 l → OC S g f → ∃ g', l_M_mark_50 m 0 0 (l.length : Int) 1 (i : Int) g = some g' ∧ KK (fun r => r ≠ 80) g g' ∧ OC S g' (fun v => f v || (decide (v ∈ l.drop i) && decide (rol S v = 1))) := by
  have n60 := hi.1.1
  intro k
  induction k with
  | zero =>
    intro m i g f hik hm hN h79 hO
    obtain ⟨m, rfl⟩ : ∃ m', m = m' + 1 := ⟨m - 1, by omega⟩
    refine ⟨g, ?_, KK.rf, oc_congr hO (fun v _ => by rw [List.drop_eq_nil_of_le (by omega)]; simp)⟩
    rw [s_M_mark_50_0]
    unfold b_M_mark_50_0
    rw [if_pos (by omega), if_pos (by omega), if_neg (by omega)]
  | succ k ih =>
    intro m i g f hik hm hN h79 hO
    obtain ⟨m, rfl⟩ : ∃ m', m = m' + 1 := ⟨m - 1, by omega⟩
    obtain ⟨x, hx⟩ := ex_get (l := l) (k := i) (by omega)
    have hxn := hl x (List.mem_of_getElem? hx)
    obtain ⟨y, hy⟩ := ex_get hxn
    have r2 := (hi.2.1 x y hy).1
    have e79 : rA g 79 ((i : Nat) : Int) = (x : Int) := by have := h79 i x hx; rw [Nat.zero_add] at this; exact this
    have e80 : rA g 80 ((x : Nat) : Int) = b01 (f x) := hO x hxn
    have e54 : rA g 54 ((x : Nat) : Int) = (((y.role + 1) % 3 : Nat) : Int) := (hN.2 x y hy).2.1
    have hrol := rol_get hy
    have t1 : ((i : Int) + 1) = ((i + 1 : Nat) : Int) := rfl
    have go : ∀ w : Int, w = b01 (f x || decide (rol S x = 1)) → ∃ g', l_M_mark_50 m 0 0 (l.length : Int) 1 ((i : Int) + 1) (gA g 80 (x : Int) w) = some g' ∧ KK (fun r => r ≠ 80) g g' ∧ OC S g' (fun v => f v || (decide (v ∈ l.drop i) && decide (rol S v = 1))) := by
      intro w hw
      obtain ⟨g', a1, a2, a3⟩ := ih m (i + 1) (gA g 80 (x : Int) w) _ (by omega) (by omega) hN h79 (oc_step hO x hxn w hw)
      refine ⟨g', by rw [t1]; exact a1, (KK.a (by decide) KK.rf).tr a2, oc_congr a3 (fun v _ => ?_)⟩
      rw [drop_eq hx]
      by_cases q : v = x
      · subst q; simp; cases f v <;> simp
      · simp [q]
    rw [s_M_mark_50_0]
    unfold b_M_mark_50_0
    rw [if_pos (by omega), if_pos (by omega), if_pos (by omega), if_pos (by decide), if_neg (by decide), if_pos (by omega), e79, if_pos (by omega), e80, if_pos (b01_ir _)]
    cases hf : f x with
    | true =>
      rw [if_neg (by decide)]
      exact go 1 (by rw [hf]; rfl)
    | false =>
      rw [if_pos (by decide), e54, if_pos (by omega)]
      by_cases q : y.role = 1
      · rw [if_pos (by rw [q]; rfl)]
        exact go 1 (by rw [hf, hrol, q]; rfl)
      · rw [if_neg (by omega)]
        exact go 0 (by rw [hf, hrol, decide_eq_false q]; rfl)
theorem m_markS {S : RSt} (hi : Iv S) (K : Nat) (hK : K < 40) (l : List Nat) (hl : ∀ v ∈ l, v < S.nms.length) (h24 : l.length ≤ 24) : ∀ (k m i : Nat) (g : G2) (f : Nat → Bool), i + k = l.length → k < m → MN S g → RowAt (g.2.2.1 60) (24 * K) l → OC S g f → ∃ g', l_M_mark_50 m 0 (24 * (K : Int)) (l.length : Int) 0 (i : Int) g = some g' ∧ KK (fun r => r ≠ 80) g g' ∧ OC S g' (fun v => f v || (decide (v ∈ l.drop i) && decide (rol S v = 1))) := by
  have n60 := hi.1.1
  intro k
  induction k with
  | zero =>
    intro m i g f hik hm hN h79 hO
    obtain ⟨m, rfl⟩ : ∃ m', m = m' + 1 := ⟨m - 1, by omega⟩
    refine ⟨g, ?_, KK.rf, oc_congr hO (fun v _ => by rw [List.drop_eq_nil_of_le (by omega)]; simp)⟩
    rw [s_M_mark_50_0]
    unfold b_M_mark_50_0
    rw [if_pos (by omega), if_pos (by omega), if_neg (by omega)]
  | succ k ih =>
    intro m i g f hik hm hN h79 hO
    obtain ⟨m, rfl⟩ : ∃ m', m = m' + 1 := ⟨m - 1, by omega⟩
    obtain ⟨x, hx⟩ := ex_get (l := l) (k := i) (by omega)
    have hxn := hl x (List.mem_of_getElem? hx)
    obtain ⟨y, hy⟩ := ex_get hxn
    have r2 := (hi.2.1 x y hy).1
    have e60 : rA g 60 ((24 * (K : Int)) + (i : Int)) = (x : Int) := by
      show g.2.2.1 60 ((24 * (K : Int)) + (i : Int)).toNat = _
      rw [show ((24 * (K : Int)) + (i : Int)).toNat = 24 * K + i by omega]; exact h79 i x hx
    have e80 : rA g 80 ((x : Nat) : Int) = b01 (f x) := hO x hxn
    have e54 : rA g 54 ((x : Nat) : Int) = (((y.role + 1) % 3 : Nat) : Int) := (hN.2 x y hy).2.1
    have hrol := rol_get hy
    have t1 : ((i : Int) + 1) = ((i + 1 : Nat) : Int) := rfl
    have go : ∀ w : Int, w = b01 (f x || decide (rol S x = 1)) → ∃ g', l_M_mark_50 m 0 (24 * (K : Int)) (l.length : Int) 0 ((i : Int) + 1) (gA g 80 (x : Int) w) = some g' ∧ KK (fun r => r ≠ 80) g g' ∧ OC S g' (fun v => f v || (decide (v ∈ l.drop i) && decide (rol S v = 1))) := by
      intro w hw
      obtain ⟨g', a1, a2, a3⟩ := ih m (i + 1) (gA g 80 (x : Int) w) _ (by omega) (by omega) hN h79 (oc_step hO x hxn w hw)
      refine ⟨g', by rw [t1]; exact a1, (KK.a (by decide) KK.rf).tr a2, oc_congr a3 (fun v _ => ?_)⟩
      rw [drop_eq hx]
      by_cases q : v = x
      · subst q; simp; cases f v <;> simp
      · simp [q]
    rw [s_M_mark_50_0]
    unfold b_M_mark_50_0
    rw [if_pos (by omega), if_pos (by omega), if_pos (by omega), if_pos (by decide), if_pos rfl, if_pos (by omega), e60, if_pos (by omega), e80, if_pos (b01_ir _)]
    cases hf : f x with
    | true =>
      rw [if_neg (by decide)]
      exact go 1 (by rw [hf]; rfl)
    | false =>
      rw [if_pos (by decide), e54, if_pos (by omega)]
      by_cases q : y.role = 1
      · rw [if_pos (by rw [q]; rfl)]
        exact go 1 (by rw [hf, hrol, q]; rfl)
      · rw [if_neg (by omega)]
        exact go 0 (by rw [hf, hrol, decide_eq_false q]; rfl)
theorem MN.kk {S : RSt} {g g' : G2} {P : Nat → Prop} (h : MN S g) (k : KK P g g') (p : P 49 ∧ P 53 ∧ P 54 ∧ P 57) : MN S g' := by
  obtain ⟨p1, p2, p3, p4⟩ := p
  unfold MN rI at *
  rw [(k 49 p1).1, (k 53 p2).2.2.2, (k 54 p3).2.2.1, (k 57 p4).2.2.1]; exact h
theorem mvS_app (H : Int64) (s : RSm) : ∀ (l : List RSm) (i : Nat) (V : Int64), mvS H (l ++ [s]) i V = (if tb H (i + l.length) = true ∧ s.kind = 1 then mvS H l i V ||| s.vs else mvS H l i V) := by
  intro l
  induction l with
  | nil => intro i V; rfl
  | cons x l ih =>
    intro i V
    show mvS H (l ++ [s]) (i + 1) _ = _
    rw [ih (i + 1), List.length_cons, show i + 1 + l.length = i + (l.length + 1) by omega]
    rfl
theorem mk_bool {S : RSt} {l : List Nat} {x : Int64} (h : MK S l x) {v : Nat} (hv : v < 64) : tb x v = (decide (v ∈ l) && decide (rol S v = 1)) := by
  have := h v hv
  cases hb : tb x v with
  | true => have z := this.mp hb; simp [z.1, z.2]
  | false =>
    symm
    rw [Bool.and_eq_false_iff]
    by_cases q : v ∈ l
    · right
      refine decide_eq_false (fun z => ?_)
      have := this.mpr ⟨q, z⟩
      rw [hb] at this; cases this
    · exact Or.inl (decide_eq_false q)
/-- phase 1: which variables occur -/
theorem m_fn1 {S : RSt} (hi : Iv S) (a : Nat) (ha : a < 41) (g0 : G2) (hN : MN S g0) (hS : MSt S g0) (hH : MH S g0) : ∀ (k m i : Nat) (g : G2), i + k = S.sms.length → 2 * k + 1 < m → KK (fun r => r ≠ 80) g0 g → OC S g (fun v => tb (mvS S.hyps (S.sms.take i) 0 S.cvs) v) → ∃ (m' : Nat) (g' : G2), m ≤ m' + 2 * k + 1 ∧ l_M_findNeeds_50 m 1 (a : Int) (i : Int) g = l_M_findNeeds_50 m' 3 (a : Int) 0 (gA g' 70 (a : Int) 0) ∧ KK (fun r => r ≠ 80) g0 g' ∧ OC S g' (fun v => tb (mV S) v) := by
  have m40 : S.sms.length ≤ 40 := hi.1.2.1
  have n60 := hi.1.1
  intro k
  induction k with
  | zero =>
    intro m i g hik hm hk hO
    obtain ⟨m, rfl⟩ : ∃ m', m = m' + 1 := ⟨m - 1, by omega⟩
    rw [List.take_of_length_le (by omega)] at hO
    have e15 : rI g 49 15 = (S.sms.length : Int) := by rw [show rI g 49 15 = rI g0 49 15 from congrFun (hk 49 (by decide)).1 15]; exact hS.1
    refine ⟨m, g, by omega, ?_, hk, hO⟩
    rw [s_M_findNeeds_50_1]
    unfold b_M_findNeeds_50_1
    rw [if_pos (by omega), if_pos (by omega), if_neg (by omega), if_pos (by omega)]
  | succ k ih =>
    intro m i g hik hm hk hO
    obtain ⟨m, rfl⟩ : ∃ m', m = m' + 2 := ⟨m - 2, by omega⟩
    obtain ⟨s, hs⟩ := ex_get (l := S.sms) (k := i) (by omega)
    obtain ⟨w1, w2, w3, w4, w5⟩ := hS.2 i s hs
    obtain ⟨z1, z2, z3, z4, z5⟩ := hi.2.2.1 i s hs
    have e15 : rI g 49 15 = (S.sms.length : Int) := by rw [show rI g 49 15 = rI g0 49 15 from congrFun (hk 49 (by decide)).1 15]; exact hS.1
    have e62 : rA g 62 ((i : Nat) : Int) = b01 (tb S.hyps i) := by show g.2.2.1 62 i = _; rw [(hk 62 (by decide)).2.2.1]; exact (hH i (by omega)).1
    have e58 : rA g 58 ((i : Nat) : Int) = (s.kind : Int) + 4 := by show g.2.2.1 58 i = _; rw [(hk 58 (by decide)).2.2.1]; exact w1
    have e61 : rA g 61 ((i : Nat) : Int) = (s.row.length : Int) := by show g.2.2.1 61 i = _; rw [(hk 61 (by decide)).2.2.1]; exact w3
    have hmv : mvS S.hyps (S.sms.take (i + 1)) 0 S.cvs = (if tb S.hyps i = true ∧ s.kind = 1 then mvS S.hyps (S.sms.take i) 0 S.cvs ||| s.vs else mvS S.hyps (S.sms.take i) 0 S.cvs) := by
      rw [take_succ' hs, mvS_app, List.length_take, Nat.min_eq_left (by omega), Nat.zero_add]
    have t2 : ∀ gg : G2, l_M_findNeeds_50 (m + 1) 2 (a : Int) (i : Int) gg = l_M_findNeeds_50 m 1 (a : Int) ((i + 1 : Nat) : Int) gg := fun gg => by
      rw [s_M_findNeeds_50_2]
      rfl
    rw [show m + 2 = (m + 1) + 1 by omega, s_M_findNeeds_50_1]
    unfold b_M_findNeeds_50_1
    rw [if_pos (by omega), if_pos (by omega), if_pos (by omega), if_pos (by omega), e62, if_pos (b01_ir _)]
    have skip : ¬ (tb S.hyps i = true ∧ s.kind = 1) → ∃ (m' : Nat) (g' : G2), m + 1 + 1 ≤ m' + 2 * (k + 1) + 1 ∧ l_M_findNeeds_50 (m + 1) 2 (a : Int) (i : Int) g = l_M_findNeeds_50 m' 3 (a : Int) 0 (gA g' 70 (a : Int) 0) ∧ KK (fun r => r ≠ 80) g0 g' ∧ OC S g' (fun v => tb (mV S) v) := by
      intro hc
      rw [if_neg hc] at hmv
      obtain ⟨m', g', a1, a2, a3, a4⟩ := ih m (i + 1) g (by omega) (by omega) hk (by rw [hmv]; exact hO)
      exact ⟨m', g', by omega, by rw [t2]; exact a2, a3, a4⟩
    cases hb : tb S.hyps i with
    | false =>
      rw [if_pos (by decide)]
      exact skip (fun z => by rw [hb] at z; exact absurd z.1 (by decide))
    | true =>
      rw [if_neg (by decide), e58, if_pos (by omega)]
      by_cases q1 : s.kind = 1
      · rw [if_pos (by omega), e61]
        rw [if_pos ⟨hb, q1⟩] at hmv
        obtain ⟨g1, b1, b2, b3⟩ := m_markS hi i (by omega) s.row (fun v hv => (z2.2.2.1 v hv).1) z2.2.1 s.row.length 20000 0 g _ (by omega) (by have := z2.2.1; omega) (hN.kk hk (by decide)) (by rw [(hk 60 (by decide)).2.2.1]; exact w4) hO
        have b1' : f_M_mark_50 (24 * (i : Int)) (s.row.length : Int) 0 g = some g1 := b1
        rw [b1', Option.bind_some]
        obtain ⟨m', g', a1, a2, a3, a4⟩ := ih m (i + 1) g1 (by omega) (by omega) (hk.tr b2) (by
          rw [hmv]
          refine oc_congr b3 (fun v hv => ?_)
          rw [List.drop_zero, tb_or, mk_bool z3 (by omega)])
        exact ⟨m', g', by omega, by rw [t2]; exact a2, a3, a4⟩
      · rw [if_neg (by omega)]
        exact skip (fun z => q1 z.2)
/-- phase 3: the hypotheses -/
theorem m_fn3 {S : RSt} (hi : Iv S) (a : Nat) (ha : a < 40) (g0 : G2) (hS : MSt S g0) (hH : MH S g0) (hO : OC S g0 (fun v => tb (mV S) v)) : ∀ (k m i : Nat) (g : G2), i + k = S.sms.length → 3 * k + 1 < m → KK (fun r => r ≠ 69 ∧ r ≠ 70) g0 g → NdAt g a (hsOf i (mM S)) → (∀ p : Nat, p < 40 * a → g.2.2.1 69 p = g0.2.2.1 69 p) → (∀ p : Nat, p ≠ a → g.2.2.1 70 p = g0.2.2.1 70 p) → ∃ (m' : Nat) (g' : G2), m ≤ m' + 3 * k + 1 ∧ l_M_findNeeds_50 m 3 (a : Int) (i : Int) g = l_M_findNeeds_50 m' 6 (a : Int) 0 (gA g' 73 (a : Int) 0) ∧ KK (fun r => r ≠ 69 ∧ r ≠ 70) g0 g' ∧ NdAt g' a (hsOf S.sms.length (mM S)) ∧ (∀ p : Nat, p < 40 * a → g'.2.2.1 69 p = g0.2.2.1 69 p) ∧ ∀ p : Nat, p ≠ a → g'.2.2.1 70 p = g0.2.2.1 70 p := by
  have m40 : S.sms.length ≤ 40 := hi.1.2.1
  have n60 := hi.1.1
  intro k
  induction k with
  | zero =>
    intro m i g hik hm hk hNd h69 h70
    obtain ⟨m, rfl⟩ : ∃ m', m = m' + 1 := ⟨m - 1, by omega⟩
    have e15 : rI g 49 15 = (S.sms.length : Int) := by rw [show rI g 49 15 = rI g0 49 15 from congrFun (hk 49 (by decide)).1 15]; exact hS.1
    have e : i = S.sms.length := by omega
    subst e
    refine ⟨m, g, by omega, ?_, hk, hNd, h69, h70⟩
    rw [s_M_findNeeds_50_3]
    unfold b_M_findNeeds_50_3
    rw [if_pos (by omega), if_pos (by omega), if_neg (by omega), if_pos (by omega)]
  | succ k ih =>
    intro m i g hik hm hk hNd h69 h70
    obtain ⟨m, rfl⟩ : ∃ m', m = m' + 3 := ⟨m - 3, by omega⟩
    obtain ⟨s, hs⟩ := ex_get (l := S.sms) (k := i) (by omega)
    obtain ⟨w1, w2, w3, w4, w5⟩ := hS.2 i s hs
    obtain ⟨z1, z2, z3, z4, z5⟩ := hi.2.2.1 i s hs
    have e15 : rI g 49 15 = (S.sms.length : Int) := by rw [show rI g 49 15 = rI g0 49 15 from congrFun (hk 49 (by decide)).1 15]; exact hS.1
    have e62 : rA g 62 ((i : Nat) : Int) = b01 (tb S.hyps i) := by show g.2.2.1 62 i = _; rw [(hk 62 (by decide)).2.2.1]; exact (hH i (by omega)).1
    have e58 : rA g 58 ((i : Nat) : Int) = (s.kind : Int) + 4 := by show g.2.2.1 58 i = _; rw [(hk 58 (by decide)).2.2.1]; exact w1
    have hM := tb_mM S m40 i (by omega)
    have hle : (hsOf i (mM S)).length ≤ i := by
      unfold hsOf
      exact Nat.le_trans (List.length_filter_le _ _) (by simp)
    have t5 : ∀ (p : Nat) (gg : G2), l_M_findNeeds_50 (p + 1) 5 (a : Int) (i : Int) gg = l_M_findNeeds_50 p 3 (a : Int) ((i + 1 : Nat) : Int) gg := fun p gg => by
      rw [s_M_findNeeds_50_5]
      rfl
    have skip : ¬ tb (mM S) i = true → ∃ (m' : Nat) (g' : G2), m + 2 + 1 ≤ m' + 3 * (k + 1) + 1 ∧ l_M_findNeeds_50 (m + 2) 5 (a : Int) (i : Int) g = l_M_findNeeds_50 m' 6 (a : Int) 0 (gA g' 73 (a : Int) 0) ∧ KK (fun r => r ≠ 69 ∧ r ≠ 70) g0 g' ∧ NdAt g' a (hsOf S.sms.length (mM S)) ∧ (∀ p : Nat, p < 40 * a → g'.2.2.1 69 p = g0.2.2.1 69 p) ∧ ∀ p : Nat, p ≠ a → g'.2.2.1 70 p = g0.2.2.1 70 p := by
      intro hc
      obtain ⟨m', g', a1, a2, a3, a4, a5⟩ := ih (m + 1) (i + 1) g (by omega) (by omega) hk (by rw [hsOf_succ, if_neg hc, List.append_nil]; exact hNd) h69 h70
      exact ⟨m', g', by omega, by rw [show m + 2 = (m + 1) + 1 by omega, t5]; exact a2, a3, a4, a5⟩
    have take : tb (mM S) i = true → ∃ (m' : Nat) (g' : G2), m + 2 + 1 ≤ m' + 3 * (k + 1) + 1 ∧ l_M_findNeeds_50 (m + 2) 4 (a : Int) (i : Int) g = l_M_findNeeds_50 m' 6 (a : Int) 0 (gA g' 73 (a : Int) 0) ∧ KK (fun r => r ≠ 69 ∧ r ≠ 70) g0 g' ∧ NdAt g' a (hsOf S.sms.length (mM S)) ∧ (∀ p : Nat, p < 40 * a → g'.2.2.1 69 p = g0.2.2.1 69 p) ∧ ∀ p : Nat, p ≠ a → g'.2.2.1 70 p = g0.2.2.1 70 p := by
      intro hc
      obtain ⟨d1, d2⟩ := hNd
      have e70 : rA g 70 ((a : Nat) : Int) = ((hsOf i (mM S)).length : Int) := d1
      have ep : ((40 * (a : Int)) + (rA g 70 ((a : Nat) : Int))).toNat = 40 * a + (hsOf i (mM S)).length := by rw [e70]; omega
      obtain ⟨m', g', a1, a2, a3, a4, a5⟩ := ih m (i + 1) (gA (gA g 69 ((40 * (a : Int)) + (rA g 70 (a : Int))) (i : Int)) 70 (a : Int) ((rA g 70 (a : Int)) + 1)) (by omega) (by omega) (hk.tr (KK.a (by decide) (KK.a (by decide) KK.rf))) ⟨by
          show am_upd (g.2.2.1 70) a _ a = _
          rw [updN_at, e70, hsOf_succ, if_pos hc]; exact len1 _ _, fun q h hq => by
          show am_upd (g.2.2.1 69) ((40 * (a : Int)) + (rA g 70 ((a : Nat) : Int))).toNat (i : Int) (40 * a + q) = _
          rw [ep]
          rw [hsOf_succ, if_pos hc] at hq
          rcases ap_get hq with ⟨y1, y2⟩ | ⟨y1, y2⟩
          · rw [am_updN (by omega)]; exact d2 q h y2
          · subst y1; subst y2; rw [updN_at]⟩ (fun p hp => by
          show am_upd (g.2.2.1 69) ((40 * (a : Int)) + (rA g 70 ((a : Nat) : Int))).toNat (i : Int) p = _
          rw [ep, am_updN (by omega)]; exact h69 p hp) (fun p hp => by
          show am_upd (g.2.2.1 70) a _ p = _
          rw [am_updN hp]; exact h70 p hp)
      refine ⟨m', g', by omega, ?_, a3, a4, a5⟩
      rw [show m + 2 = (m + 1) + 1 by omega, s_M_findNeeds_50_4]
      unfold b_M_findNeeds_50_4
      rw [if_pos (by omega), if_pos (by rw [e70]; omega), t5]
      exact a2
    rw [show m + 3 = (m + 2) + 1 by omega, s_M_findNeeds_50_3]
    unfold b_M_findNeeds_50_3
    rw [if_pos (by omega), if_pos (by omega), if_pos (by omega), if_pos (by omega), e62, if_pos (b01_ir _)]
    cases hb : tb S.hyps i with
    | false =>
      rw [if_pos (by decide)]
      exact skip (fun z => by obtain ⟨_, _, z2, _⟩ := hM.mp z; rw [hb] at z2; cases z2)
    | true =>
      have hk1 : s.kind ≤ 1 := by rw [← kind_get hs]; exact (hi.2.2.2.1.1.2.2.1 i (by omega) hb).2
      rw [if_neg (by decide), e58, if_pos (by omega)]
      by_cases q1 : s.kind = 1
      · rw [if_pos (by omega)]
        exact take (hM.mpr ⟨s, hs, hb, Or.inl q1⟩)
      · obtain ⟨c, v, hcv, hrv⟩ := z4 (by omega)
        have hv := (z2.2.2.1 v (by rw [hcv]; simp)).1
        have e60 : rA g 60 ((24 * (i : Int)) + 1) = (v : Int) := by
          show g.2.2.1 60 ((24 * (i : Int)) + 1).toNat = _
          rw [(hk 60 (by decide)).2.2.1, show ((24 * (i : Int)) + 1).toNat = 24 * i + 1 by omega]
          exact w4 1 v (by rw [hcv]; rfl)
        have e80 : rA g 80 ((v : Nat) : Int) = b01 (tb (mV S) v) := by show g.2.2.1 80 v = _; rw [(hk 80 (by decide)).2.2.1]; exact hO v hv
        have hvs : s.vs &&& (mV S) ≠ Int64.ofNat 0 ↔ tb (mV S) v = true := by
          have hbit : ∀ w, w < 64 → (tb s.vs w = true ↔ w = v) := fun w hw => by
            rw [z3 w hw, hcv]
            constructor
            · rintro ⟨y1, y2⟩
              rcases List.mem_cons.mp y1 with y1 | y1
              · have := z2.2.2.2 c (by rw [hcv]; rfl)
                rw [y1] at y2; omega
              · exact List.mem_singleton.mp y1
            · intro y; rw [y]; exact ⟨by simp, hrv⟩
          constructor
          · intro hne
            refine Classical.byContradiction (fun z => hne ((tb_eq0 _).mpr (fun w hw => ?_)))
            rw [tb_and]
            cases h1 : tb s.vs w with
            | false => rfl
            | true =>
              rw [(hbit w hw).mp h1]
              cases h2 : tb (mV S) v with
              | false => rfl
              | true => exact absurd h2 z
          · intro h1 h2
            have := (tb_eq0 _).mp h2 v (by omega)
            rw [tb_and, (hbit v (by omega)).mpr rfl, h1] at this
            cases this
        rw [if_neg (by omega), if_pos (by omega), e60, if_pos (by omega), e80, if_pos (b01_ir _)]
        cases hV : tb (mV S) v with
        | false =>
          rw [if_pos (by decide)]
          exact skip (fun z => by
            obtain ⟨s', y1, _, y3⟩ := hM.mp z
            rw [hs] at y1
            injection y1 with y1
            subst y1
            rcases y3 with y3 | y3
            · exact q1 y3
            · rw [hvs.mp y3] at hV; cases hV)
        | true =>
          rw [if_neg (by decide)]
          exact take (hM.mpr ⟨s, hs, hb, Or.inr (hvs.mpr hV)⟩)
