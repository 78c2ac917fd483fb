/-! ===== what holds of every state stays: more names and statements ===== -/
def Ext (S S' : RSt) : Prop := (∀ (i : Nat) (x : RNm), S.nms[i]? = some x → S'.nms[i]? = some x) ∧ (∀ (k : Nat) (s : RSm), S.sms[k]? = some s → S'.sms[k]? = some s) ∧ (∀ (j : Nat) (x : RAs), S.ass[j]? = some x → S'.ass[j]? = some x)
theorem len_ext {α : Type} {l l' : List α} (h : ∀ (i : Nat) (x : α), l[i]? = some x → l'[i]? = some x) : l.length ≤ l'.length := by
  rcases Nat.lt_or_ge l'.length l.length with q | q
  · obtain ⟨y, hy⟩ := ex_get q
    have := lt_get (h _ y hy)
    omega
  · exact q
theorem app_ext {α : Type} (l b : List α) (i : Nat) (x : α) (h : l[i]? = some x) : (l ++ b)[i]? = some x := by rw [List.getElem?_append_left (lt_get h)]; exact h
theorem Ext.rf (S : RSt) : Ext S S := ⟨fun _ _ h => h, fun _ _ h => h, fun _ _ h => h⟩
theorem rol_ext {S S' : RSt} (h : Ext S S') {v : Nat} (hv : v < S.nms.length) : rol S' v = rol S v := by
  obtain ⟨x, hx⟩ := ex_get hv
  rw [rol_get hx, rol_get (h.1 v x hx)]
theorem kind_ext {S S' : RSt} (h : Ext S S') {k : Nat} (hk : k < S.sms.length) : kindS S' k = kindS S k := by
  obtain ⟨x, hx⟩ := ex_get hk
  rw [kind_get hx, kind_get (h.2.1 k x hx)]
theorem row_ext {S S' : RSt} (h : Ext S S') {k : Nat} (hk : k < S.sms.length) : rowS S' k = rowS S k := by
  obtain ⟨x, hx⟩ := ex_get hk
  rw [row_get hx, row_get (h.2.1 k x hx)]
theorem RowOk.ext {S S' : RSt} {l : List Nat} (h : RowOk S l) (e : Ext S S') : RowOk S' l := by
  obtain ⟨h1, h2, h3, h4⟩ := h
  have hl := len_ext e.1
  refine ⟨h1, h2, fun v hv => ⟨by have := (h3 v hv).1; omega, by rw [rol_ext e (h3 v hv).1]; exact (h3 v hv).2⟩, fun c hc => ?_⟩
  rw [rol_ext e (h3 c (List.mem_of_mem_head? hc)).1]
  exact h4 c hc
theorem MK.ext {S S' : RSt} {l : List Nat} {x : Int64} (h : MK S l x) (hl : ∀ v ∈ l, v < S.nms.length) (e : Ext S S') : MK S' l x := by
  intro v hv
  rw [h v hv]
  constructor
  · intro q; exact ⟨q.1, by rw [rol_ext e (hl v q.1)]; exact q.2⟩
  · intro q; exact ⟨q.1, by rw [← rol_ext e (hl v q.1)]; exact q.2⟩
theorem FV.ext {S S' : RSt} {p : Nat → Prop} {v k : Nat} (h : FV S p v k) (e : Ext S S') (hk : k ≤ S.sms.length) : FV S' p v k := by
  obtain ⟨f, f1, f2, f3, f4⟩ := h
  exact ⟨f, f1, f2, by rw [kind_ext e (by omega)]; exact f3, by rw [row_ext e (by omega)]; exact f4⟩
theorem FV.back {S S' : RSt} {p : Nat → Prop} {v k : Nat} (h : FV S' p v k) (e : Ext S S') (hp : ∀ f, p f → f < k → f < S.sms.length) : FV S p v S.sms.length := by
  obtain ⟨f, f1, f2, f3, f4⟩ := h
  have := hp f f1 f2
  exact ⟨f, f1, this, by rw [← kind_ext e this]; exact f3, by rw [← row_ext e this]; exact f4⟩
theorem row_mem {S : RSt} {k v : Nat} (h : v ∈ rowS S k) : k < S.sms.length := by
  rcases Nat.lt_or_ge k S.sms.length with q | q
  · exact q
  · unfold rowS at h; rw [List.getElem?_eq_none q] at h; cases h
theorem Bnd.ext {S S' : RSt} {k : Nat} {m : Int64} {row : List Nat} {prs : List (Nat × Nat)} (h : Bnd S k m row prs) (e : Ext S S') (hk : k ≤ S.sms.length) (hr : ∀ v ∈ row, v < S.nms.length) (hrows : ∀ j, j < S.sms.length → ∀ v ∈ rowS S j, v < S.nms.length) : Bnd S' k m row prs := by
  obtain ⟨h1, h2, h3, h4, h5⟩ := h
  have hl := len_ext e.1
  refine ⟨fun q q1 q2 => ⟨(h1 q q1 q2).1, ?_⟩, fun v hv hrv => ?_, fun q q1 q2 q3 v hv hrv => ?_, h4, fun p hp => ?_⟩
  · rw [kind_ext e (by have := (h1 q q1 q2).1; omega)]; exact (h1 q q1 q2).2
  · rw [rol_ext e (hr v hv)] at hrv
    exact (h2 v hv hrv).ext e hk
  · rw [kind_ext e (by omega)] at q3
    rw [row_ext e (by omega)] at hv
    rw [rol_ext e (hrows q (by omega) v hv)] at hrv
    exact (h3 q q1 q2 q3 v hv hrv).ext e (by omega)
  · obtain ⟨p1, p2, p3, p4⟩ := h5 p hp
    exact ⟨p1, by omega, p3.ext e hk, p4.ext e hk⟩
theorem rows_lt {S : RSt} (hi : I2 S) : ∀ j, j < S.sms.length → ∀ v ∈ rowS S j, v < S.nms.length := by
  intro j hj v hv
  obtain ⟨s, hs⟩ := ex_get hj
  rw [row_get hs] at hv
  exact ((hi j s hs).2.1.2.2.1 v hv).1
theorem SmOk.ext {S S' : RSt} (hi : I2 S) {k : Nat} {s : RSm} (h : S.sms[k]? = some s) (e : Ext S S') : SmOk S' k s := by
  obtain ⟨h1, h2, h3, h4, h5⟩ := hi k s h
  have hk := lt_get h
  have hrow : ∀ v ∈ s.row, v < S.nms.length := fun v hv => (h2.2.2.1 v hv).1
  refine ⟨h1, h2.ext e, h3.ext hrow e, fun q => ?_, fun q => ?_⟩
  · obtain ⟨c, v, q1, q2⟩ := h4 q
    exact ⟨c, v, q1, by rw [rol_ext e (hrow v (by rw [q1]; simp))]; exact q2⟩
  · obtain ⟨q1, q2⟩ := h5 q
    obtain ⟨x, hx⟩ := ex_get q1
    rw [prs_get hx] at q2
    refine ⟨lt_get (e.2.2 _ x hx), ?_⟩
    rw [prs_get (e.2.2 _ x hx)]
    exact q2.ext e (by omega) hrow (rows_lt hi)
theorem FrOk.ext {S S' : RSt} (hi : I2 S) {v t h : Int64} (m64 : S'.sms.length ≤ 64) (q : FrOk S v t h) (e : Ext S S') : FrOk S' v t h := by
  obtain ⟨q1, q2, q3, q4⟩ := q
  have hl := len_ext e.1
  have hm := len_ext e.2.1
  refine ⟨fun w w1 w2 => ?_, fun w w1 => ?_, fun k k1 k2 => ?_, fun k k1 k2 k3 w hw hrw => ?_⟩
  · obtain ⟨y1, y2⟩ := q1 w w1 w2
    exact ⟨by omega, by rw [rol_ext e y1]; exact y2⟩
  · rw [q2 w w1]
    constructor
    · intro z
      obtain ⟨f, f1, f2, f3⟩ := z.ext e (Nat.le_refl _)
      exact ⟨f, f1, by omega, f3⟩
    · intro z
      exact z.back e (fun f f1 f2 => (q3 f (by omega) f1).1)
  · obtain ⟨y1, y2⟩ := q3 k k1 k2
    exact ⟨by omega, by rw [kind_ext e y1]; exact y2⟩
  · have y1 := (q3 k (by omega) k2).1
    rw [kind_ext e y1] at k3
    rw [row_ext e y1] at hw
    rw [rol_ext e (rows_lt hi k y1 w hw)] at hrw
    exact (q4 k y1 k2 k3 w hw hrw).ext e (by omega)
theorem StOk.ext {S S' : RSt} {l : List (List Nat × Int64)} (h : StOk S l) (e : Ext S S') : StOk S' l := fun x hx => ⟨(h x hx).1.ext e, (h x hx).2.ext (fun v hv => ((h x hx).1.2.2.1 v hv).1) e⟩
/-- what of a state speaks of names, statements and scopes alone -/
theorem base_ext {S S' : RSt} (h : Iv S) (e : Ext S S') (n60 : S'.nms.length ≤ 60) (hs : S'.sms = S.sms) (ha : S'.ass = S.ass) (hX : S'.2.1 = S.2.1) (h1 : ∀ (i : Nat) (x : RNm), S'.nms[i]? = some x → S.nms[i]? = some x ∨ (x.role ≤ 2 ∧ (x.role = 2 → x.lst < S'.sms.length))) : (S'.nms.length ≤ 60 ∧ S'.sms.length ≤ 40 ∧ S'.ass.length ≤ S'.sms.length ∧ S'.out.length ≤ 6 ∧ S'.prs.length ≤ 40) ∧ I1 S' ∧ I2 S' ∧ I3 S' ∧ I4 S' ∧ I9 S' := by
  obtain ⟨i0, i1, i2, i3, i4, i5, i6, i7, i8, i9⟩ := h
  obtain ⟨o1, o2, o3, o4, o5, o6⟩ := i0
  have hX' : S'.vars = S.vars ∧ S'.typed = S.typed ∧ S'.hyps = S.hyps ∧ S'.prs = S.prs ∧ S'.out = S.out := by
    unfold RSt.vars RSt.typed RSt.hyps RSt.prs RSt.out
    rw [hX]; exact ⟨rfl, rfl, rfl, rfl, rfl⟩
  obtain ⟨x1, x2, x3, x4, x5⟩ := hX'
  refine ⟨⟨n60, by rw [hs]; exact o2, by rw [ha, hs]; exact o3, by rw [x5]; exact o4, by rw [x4]; exact o5⟩, fun i x hx => ?_, fun k s hk => ?_, ⟨?_, fun t o ho => ?_⟩, fun p hp => ?_, fun j x hx => ?_⟩
  · rcases h1 i x hx with q | q
    · rw [hs]; exact i1 i x q
    · exact q
  · rw [hs] at hk
    exact SmOk.ext i2 hk e
  · rw [x1, x2, x3]
    exact i3.1.ext i2 (by rw [hs]; omega) e
  · rw [x5] at ho
    obtain ⟨y1, y2, y3⟩ := i3.2 t o ho
    refine ⟨y1.ext i2 (by rw [hs]; omega) e, by rw [x4]; exact y2, ?_⟩
    rw [x5]; exact y3
  · rw [x4] at hp
    obtain ⟨y1, ⟨y2, y3⟩, y4, y5⟩ := i4 p hp
    have hl := len_ext e.1
    exact ⟨y1, ⟨by omega, by rw [rol_ext e y2]; exact y3⟩, by omega, by rw [rol_ext e y4]; exact y5⟩
  · rw [ha] at hx
    unfold I9 at i9
    rw [hs]
    exact i9 j x hx
theorem rol_app {S S' : RSt} {x : RNm} (h : S'.nms = S.nms ++ [x]) : rol S' S.nms.length = x.role := by
  unfold rol; rw [h, List.getElem?_append_right (Nat.le_refl _)]; simp
theorem cnt_set {p q : Nat → Bool} {u : Nat} : ∀ n, u < n → p u = false → (∀ i, i < n → q i = (p i || decide (i = u))) → cnt q n = cnt p n + 1 := by
  intro n
  induction n with
  | zero => intro h; omega
  | succ n ih =>
    intro hu hp hq
    rw [cnt_succ, cnt_succ]
    by_cases e : u = n
    · subst e
      have e1 : cnt q u = cnt p u := cnt_congr (fun i hi => by rw [hq i (by omega), decide_eq_false (by omega), Bool.or_false])
      rw [e1, hq u (by omega), hp]
      simp
    · rw [ih (by omega) hp (fun i hi => hq i (by omega)), hq n (by omega), decide_eq_false (fun w => e w.symm), Bool.or_false]
      omega
theorem tb_orbit {x : Int64} {u : Nat} (hu : u < 64) {i : Nat} (hi : i < 64) : tb (x ||| bit u) i = (tb x i || decide (i = u)) := by rw [tb_or, tb_bit hu hi]
theorem iv_declareConstant {S S' : RSt} {c : Int64} (h : Iv S) (hs : S.stage = 1) (he : declareConstantS S c = .ok S') : Iv S' ∧ S'.stage = 1 := by
  unfold declareConstantS at he
  by_cases q : fnd S c = -1
  · rw [if_neg (fun z => z q)] at he
    by_cases q2 : 60 ≤ S.nms.length
    · rw [if_pos q2] at he; cases he
    · rw [if_neg q2] at he
      injection he with he
      have hn : S'.nms = S.nms ++ [(c, 0, 0)] := by rw [← he]
      have hl : S'.nms.length = S.nms.length + 1 := by rw [hn, List.length_append]; rfl
      have e : Ext S S' := ⟨fun i x hx => by rw [hn]; exact app_ext _ _ i x hx, fun k s hk => by rw [← he]; exact hk, fun j x hx => by rw [← he]; exact hx⟩
      obtain ⟨b1, b2, b3, b4, b5, b6⟩ := base_ext h e (by omega) (by rw [← he]) (by rw [← he]) (by rw [← he]) (fun i x hx => by
        rw [hn] at hx
        rcases ap_get hx with ⟨_, z⟩ | ⟨_, z⟩
        · exact Or.inl z
        · right; rw [z]; exact ⟨by show 0 ≤ 2; decide, fun w => absurd (show (0 : Nat) = 2 from w) (by decide)⟩)
      have hst : S'.stage = 1 := by rw [← he]; exact hs
      have htk : S'.taken = S.taken + 1 := by rw [← he]
      have i5 := h.2.2.2.2.2.1.1 hs
      exact ⟨⟨⟨b1.1, b1.2.1, b1.2.2.1, b1.2.2.2.1, b1.2.2.2.2, by omega⟩, b2, b3, b4, b5, ⟨fun _ => by omega, fun w => by omega, fun w => by omega, fun w => by omega⟩, ⟨fun w => by omega, fun w => by omega, fun w => by omega, fun w => by omega, fun w => by omega, fun w => by omega, fun w => by omega, fun w => by omega, fun w => by omega⟩, fun w => by omega, fun w => by omega, b6⟩, hst⟩
  · rw [if_pos q] at he; cases he
