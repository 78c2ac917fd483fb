/-! ===== what holds of every state stays: assertions and declarations, scopes ===== -/
theorem tb_mvS (H : Int64) : ∀ (l : List RSm) (i : Nat) (V : Int64) (v : Nat), tb (mvS H l i V) v = true ↔ tb V v = true ∨ ∃ j s, l[j]? = some s ∧ tb H (i + j) = true ∧ s.kind = 1 ∧ tb s.vs v = true := by
  intro l
  induction l with
  | nil => intro i V v; show tb V v = true ↔ _; simp
  | cons s l ih =>
    intro i V v
    show tb (mvS H l (i + 1) (if tb H i = true ∧ s.kind = 1 then V ||| s.vs else V)) v = true ↔ _
    rw [ih]
    constructor
    · rintro (h | ⟨j, s', h1, h2, h3, h4⟩)
      · by_cases q : tb H i = true ∧ s.kind = 1
        · rw [if_pos q, tb_or, Bool.or_eq_true] at h
          rcases h with h | h
          · exact Or.inl h
          · exact Or.inr ⟨0, s, rfl, q.1, q.2, h⟩
        · rw [if_neg q] at h; exact Or.inl h
      · exact Or.inr ⟨j + 1, s', by simpa using h1, by rw [show i + (j + 1) = i + 1 + j by omega]; exact h2, h3, h4⟩
    · rintro (h | ⟨j, s', h1, h2, h3, h4⟩)
      · left
        by_cases q : tb H i = true ∧ s.kind = 1
        · rw [if_pos q, tb_or, h]; rfl
        · rw [if_neg q]; exact h
      · cases j with
        | zero =>
          left
          have e : s = s' := by simpa using h1
          subst e
          rw [if_pos ⟨h2, h3⟩, tb_or, h4, Bool.or_true]
        | succ j => exact Or.inr ⟨j, s', by simpa using h1, by rw [show i + 1 + j = i + (j + 1) by omega]; exact h2, h3, h4⟩
theorem tb_mdS (H V : Int64) : ∀ (l : List RSm) (i : Nat) (M : Int64) (v : Nat), i + l.length ≤ 64 → v < 64 → (tb (mdS H V l i M) v = true ↔ tb M v = true ∨ ∃ j s, l[j]? = some s ∧ v = i + j ∧ tb H v = true ∧ (s.kind = 1 ∨ s.vs &&& V ≠ Int64.ofNat 0)) := by
  intro l
  induction l with
  | nil => intro i M v _ _; show tb M v = true ↔ _; simp
  | cons s l ih =>
    intro i M v hl hv
    rw [List.length_cons] at hl
    show tb (mdS H V l (i + 1) (if tb H i = true ∧ (s.kind = 1 ∨ s.vs &&& V ≠ Int64.ofNat 0) then M ||| bit i else M)) v = true ↔ _
    rw [ih (i + 1) _ v (by omega) hv]
    constructor
    · rintro (h | ⟨j, s', h1, h2, h3, h4⟩)
      · by_cases q : tb H i = true ∧ (s.kind = 1 ∨ s.vs &&& V ≠ Int64.ofNat 0)
        · rw [if_pos q, tb_orbit (by omega) hv, Bool.or_eq_true, decide_eq_true_eq] at h
          rcases h with h | h
          · exact Or.inl h
          · exact Or.inr ⟨0, s, rfl, h, by rw [h]; exact q.1, q.2⟩
        · rw [if_neg q] at h; exact Or.inl h
      · exact Or.inr ⟨j + 1, s', by simpa using h1, by omega, h3, h4⟩
    · rintro (h | ⟨j, s', h1, h2, h3, h4⟩)
      · left
        by_cases q : tb H i = true ∧ (s.kind = 1 ∨ s.vs &&& V ≠ Int64.ofNat 0)
        · rw [if_pos q, tb_or, h]; rfl
        · rw [if_neg q]; exact h
      · cases j with
        | zero =>
          left
          have e : s = s' := by simpa using h1
          subst e
          have e2 : v = i := by omega
          subst e2
          rw [if_pos ⟨h3, h4⟩, tb_orbit hv hv, decide_eq_true rfl, Bool.or_true]
        | succ j => exact Or.inr ⟨j, s', by simpa using h1, by omega, h3, h4⟩
/-- the variables that an assertion needs -/
abbrev mV (S : RSt) : Int64 := mvS S.hyps S.sms 0 S.cvs
abbrev mM (S : RSt) : Int64 := mdS S.hyps (mV S) S.sms 0 (Int64.ofNat 0)
theorem tb_mV (S : RSt) (v : Nat) : tb (mV S) v = true ↔ tb S.cvs v = true ∨ ∃ j s, S.sms[j]? = some s ∧ tb S.hyps j = true ∧ s.kind = 1 ∧ tb s.vs v = true := by
  have := tb_mvS S.hyps S.sms 0 S.cvs v
  simp only [Nat.zero_add] at this
  exact this
theorem tb_mM (S : RSt) (hm : S.sms.length ≤ 40) (v : Nat) (hv : v < 64) : tb (mM S) v = true ↔ ∃ s, S.sms[v]? = some s ∧ tb S.hyps v = true ∧ (s.kind = 1 ∨ s.vs &&& (mV S) ≠ Int64.ofNat 0) := by
  rw [tb_mdS S.hyps (mV S) S.sms 0 (Int64.ofNat 0) v (by omega) hv, tb_zero]
  constructor
  · rintro (h | ⟨j, s, h1, h2, h3, h4⟩)
    · cases h
    · have e : v = j := by omega
      subst e
      exact ⟨s, h1, h3, h4⟩
  · rintro ⟨s, h1, h2, h3⟩
    exact Or.inr ⟨v, s, h1, by omega, h2, h3⟩
theorem bnd_begin {S : RSt} (h : Iv S) (hs : S.stage = 9) : Bnd S S.sms.length (mM S) S.crow (pairsOf S.nms.length (apOf S.prs) (mV S)) := by
  have n60 := h.1.1
  have m40 : S.sms.length ≤ 40 := h.1.2.1
  obtain ⟨f1, f2, f3, f4⟩ := h.2.2.2.1.1
  have i2 := h.2.2.1
  obtain ⟨b1, b2, b3, b4, b5⟩ := h.2.2.2.2.2.2.1.1 (by omega)
  obtain ⟨⟨r1, r2, r3, r4⟩, r5⟩ := h.2.2.2.2.2.2.1.2.2.2.2.2.2.2.2 (by omega)
  -- a floating hypothesis that holds, of a variable that is needed, is needed
  have need : ∀ v e, v < 64 → e ≤ S.sms.length → tb (mV S) v = true → FV S (fun h => tb S.hyps h = true) v e → FV S (fun h => tb (mM S) h = true) v e := by
    rintro v e hv he hV ⟨f, g1, g2, g3, g4⟩
    refine ⟨f, ?_, g2, g3, g4⟩
    obtain ⟨s, hsf⟩ := ex_get (l := S.sms) (k := f) (by omega)
    refine (tb_mM S m40 f (by omega)).mpr ⟨s, hsf, g1, Or.inr (fun z => ?_)⟩
    rw [kind_get hsf] at g3
    rw [row_get hsf] at g4
    obtain ⟨c, w, q1, q2⟩ := (i2 f s hsf).2.2.2.1 g3
    rw [q1] at g4
    injection g4 with g4
    have g5 : w = v := g4
    subst g5
    have t1 : tb s.vs w = true := ((i2 f s hsf).2.2.1 w hv).mpr ⟨by rw [q1]; simp, q2⟩
    have t2 := (tb_eq0 _).mp z w hv
    rw [tb_and, t1, hV] at t2
    cases t2
  have crowV : ∀ v ∈ S.crow, rol S v = 1 → tb (mV S) v = true := fun v hv hrv => (tb_mV S v).mpr (Or.inl ((b4 v (by have := (b3 v hv).1; omega)).mpr ⟨hv, hrv⟩))
  have essV : ∀ e, e < S.sms.length → tb S.hyps e = true → kindS S e = 1 → ∀ v ∈ rowS S e, rol S v = 1 → tb (mV S) v = true := by
    intro e he1 he2 he3 v hv hrv
    obtain ⟨s, hse⟩ := ex_get he1
    rw [kind_get hse] at he3
    rw [row_get hse] at hv
    have := ((i2 e s hse).2.1.2.2.1 v hv).1
    exact (tb_mV S v).mpr (Or.inr ⟨e, s, hse, he2, he3, ((i2 e s hse).2.2.1 v (by omega)).mpr ⟨hv, hrv⟩⟩)
  have pairV : ∀ v, v < S.nms.length → tb (mV S) v = true → FV S (fun h => tb (mM S) h = true) v S.sms.length := by
    intro v hv hV
    rcases (tb_mV S v).mp hV with q | ⟨e, s, q1, q2, q3, q4⟩
    · obtain ⟨y1, y2⟩ := (b4 v (by omega)).mp q
      exact need v _ (by omega) (Nat.le_refl _) hV (r5 v y1 y2)
    · obtain ⟨y1, y2⟩ := ((i2 e s q1).2.2.1 v (by omega)).mp q4
      have he := lt_get q1
      obtain ⟨f, g1, g2, g3⟩ := need v e (by omega) (by omega) hV (f4 e he q2 (by rw [kind_get q1]; exact q3) v (by rw [row_get q1]; exact y1) y2)
      exact ⟨f, g1, by omega, g3⟩
  refine ⟨fun q q1 q2 => ?_, fun v hv hrv => ?_, fun e e1 e2 e3 v hv hrv => ?_, ?_, fun p hp => ?_⟩
  · obtain ⟨s, z1, z2, z3⟩ := (tb_mM S m40 q q1).mp q2
    exact f3 q q1 z2
  · have := (b3 v hv).1
    exact need v _ (by omega) (Nat.le_refl _) (crowV v hv hrv) (r5 v hv hrv)
  · obtain ⟨s, z1, z2, z3⟩ := (tb_mM S m40 e (by omega)).mp e2
    have := rows_lt i2 e e1 v hv
    exact need v e (by omega) (by omega) (essV e e1 z2 e3 v hv hrv) (f4 e e1 z2 e3 v hv hrv)
  · have := pairsOf_len (V := mV S) (prs60 h) n60
    have p40 : S.prs.length ≤ 40 := h.1.2.2.2.2.1
    omega
  · obtain ⟨y1, y2, y3, y4, y5, y6⟩ := mem_pairsOf.mp hp
    exact ⟨y3, y2, pairV _ y1 y4, pairV _ y2 y5⟩
theorem iv_declare {S S' : RSt} (h : Iv S) (hst : 7 = S.stage ∨ 9 ≤ S.stage) (ch cr : Int64) (x : RAs) (hB : 2 ≤ S.ckind → Bnd S S.sms.length cr S.crow x.prs ∧ x.hgt ≤ 16 ∧ x.stm = S.sms.length) (he : declareS ((S.uCmand cr).uCa x) = .ok S') : Iv S' ∧ S'.stage = 0 := by
  obtain ⟨⟨o1, o2, o3, o4, o5, o6⟩, i1, i2, ⟨i3, i3'⟩, i4, _, i6, _, _, i9⟩ := h
  obtain ⟨b1, b2, b3, b4, b5⟩ := i6.1 (by omega)
  have hk3 : S.ckind ≤ 3 := i6.2.2.2.1 (by omega)
  have hrow : RowOk S S.crow := by
    rcases hst with q | q
    · obtain ⟨c, v, q1, q2, q3, q4, q5⟩ := i6.2.2.2.2.2.2.2.1 q.symm
      refine ⟨by rw [q1]; show 1 ≤ 2; decide, by rw [q1]; show 2 ≤ 24; decide, b3, fun c' hc' => ?_⟩
      rw [q1] at hc'
      injection hc' with hc'
      rw [← hc']; exact q2
    · exact (i6.2.2.2.2.2.2.2.2 q).1
  unfold declareS at he
  injection he with he
  have hn : S'.nms = S.nms ++ [(S.clab, 2, S.sms.length)] := by rw [← he]
  have hs : S'.sms = S.sms ++ [(S.clab, S.ckind, S.crow, S.cvs, cr, S.ass.length)] := by rw [← he]
  have ha : S'.ass = if S.ckind ≤ 1 then S.ass else S.ass ++ [x] := by rw [← he]
  have hv : S'.vars = S.vars := by rw [← he]
  have hy : S'.hyps = if S.ckind ≤ 1 then S.hyps ||| bit S.sms.length else S.hyps := by rw [← he]
  have ht : S'.typed = if S.ckind = 0 then S.typed ||| S.cvs else S.typed := by rw [← he]
  have hp : S'.prs = S.prs := by rw [← he]
  have ho : S'.out = S.out := by rw [← he]
  have hst' : S'.stage = 0 := by rw [← he]
  have hln : S'.nms.length = S.nms.length + 1 := by rw [hn, List.length_append]; rfl
  have hlm : S'.sms.length = S.sms.length + 1 := by rw [hs, List.length_append]; rfl
  have e : Ext S S' := ⟨fun i y hy' => by rw [hn]; exact app_ext _ _ i y hy', fun k s hk => by rw [hs]; exact app_ext _ _ k s hk, fun j y hj => by
    rw [ha]
    split
    · exact hj
    · exact app_ext _ _ j y hj⟩
  have hmg : S'.sms[S.sms.length]? = some (S.clab, S.ckind, S.crow, S.cvs, cr, S.ass.length) := by rw [hs, List.getElem?_append_right (Nat.le_refl _)]; simp
  have hla : S'.ass.length = if S.ckind ≤ 1 then S.ass.length else S.ass.length + 1 := by
    rw [ha]
    split
    · rfl
    · rw [List.length_append]; rfl
  have hfr := fun v t hh (q : FrOk S v t hh) => q.ext i2 (by omega) e
  refine ⟨⟨⟨by omega, by omega, by rw [hla, hlm]; split <;> omega, by rw [ho]; exact o4, by rw [hp]; exact o5, by omega⟩, fun i y hy' => ?_, fun k s hk => ?_, ⟨?_, fun t o hto => ?_⟩, fun p hpp => ?_, lab5 (Or.inl hst'), (cur0 (by omega)).1, (cur0 (by omega)).2.1, (cur0 (by omega)).2.2, fun j y hj => ?_⟩, hst'⟩
  · rw [hn] at hy'
    rcases ap_get hy' with ⟨_, z⟩ | ⟨_, z⟩
    · obtain ⟨z1, z2⟩ := i1 i y z
      exact ⟨z1, fun w => by have := z2 w; omega⟩
    · rw [z]; exact ⟨Nat.le_refl 2, fun _ => by rw [hlm]; exact Nat.lt_succ_self _⟩
  · have hk2 := hk
    rw [hs] at hk2
    rcases ap_get hk2 with ⟨_, z⟩ | ⟨z1, z⟩
    · exact SmOk.ext i2 z e
    · subst z1; subst z
      refine ⟨hk3, hrow.ext e, b4.ext (fun v hv => (b3 v hv).1) e, fun q => ?_, fun q => ?_⟩
      · rcases hst with w | w
        · obtain ⟨c, v, q1, q2, q3, q4, q5⟩ := i6.2.2.2.2.2.2.2.1 w.symm
          exact ⟨c, v, q1, by rw [rol_ext e (b3 v (by rw [q1]; simp)).1]; exact q3⟩
        · have := i6.2.2.2.2.2.1 (by omega)
          have q' : S.ckind = 0 := q
          omega
      · have q' : 2 ≤ S.ckind := q
        have hax : S'.ass[S.ass.length]? = some x := by rw [ha, if_neg (by omega), List.getElem?_append_right (Nat.le_refl _)]; simp
        refine ⟨lt_get hax, ?_⟩
        show Bnd S' S.sms.length cr S.crow (prsS S' S.ass.length)
        rw [prs_get hax]
        exact (hB q').1.ext e (Nat.le_refl _) (fun v hv => (b3 v hv).1) (rows_lt i2)
  · rw [hv, ht, hy]
    obtain ⟨g1, g2, g3, g4⟩ := hfr _ _ _ i3
    by_cases hk1 : S.ckind ≤ 1
    · rw [if_pos hk1]
      have hm0 : tb S.hyps S.sms.length = false := by
        cases hq : tb S.hyps S.sms.length with
        | false => rfl
        | true => have := (i3.2.2.1 _ (by omega) hq).1; omega
      have hyb : ∀ q, q < 64 → (tb (S.hyps ||| bit S.sms.length) q = true ↔ tb S.hyps q = true ∨ q = S.sms.length) := fun q hq => by rw [tb_orbit (by omega) hq, Bool.or_eq_true, decide_eq_true_eq]
      have up : ∀ w k, k ≤ 64 → FV S' (fun h => tb S.hyps h = true) w k → FV S' (fun h => tb (S.hyps ||| bit S.sms.length) h = true) w k := fun w k hk64 ⟨f, y1, y2, y3⟩ => ⟨f, (hyb f (by omega)).mpr (Or.inl y1), y2, y3⟩
      refine ⟨g1, fun w hw => ?_, fun q q1 q2 => ?_, fun k k1 k2 k3 w hw hrw => ?_⟩
      · by_cases hk0 : S.ckind = 0
        · rw [if_pos hk0, tb_or, Bool.or_eq_true, g2 w hw]
          have hstg : S.stage = 7 := by
            rcases hst with z | z
            · exact z.symm
            · have := i6.2.2.2.2.2.1 (by omega)
              omega
          obtain ⟨c, v, q1, q2, q3, q4, q5⟩ := i6.2.2.2.2.2.2.2.1 hstg
          have hc0 : kindS S' S.sms.length = 0 := by rw [kind_get hmg]; exact hk0
          have hr0 : rowS S' S.sms.length = [c, v] := by rw [row_get hmg]; exact q1
          constructor
          · rintro (z | z)
            · exact up w _ (by omega) z
            · obtain ⟨y1, y2⟩ := (b4 w hw).mp z
              rw [q1] at y1
              have hwv : w = v := by
                rcases List.mem_cons.mp y1 with y1 | y1
                · rw [y1] at y2; omega
                · exact List.mem_singleton.mp y1
              exact ⟨S.sms.length, (hyb _ (by omega)).mpr (Or.inr rfl), by omega, hc0, by rw [hr0, hwv]; rfl⟩
          · rintro ⟨f, y1, y2, y3, y4⟩
            rcases (hyb f (by omega)).mp y1 with z | z
            · exact Or.inl ⟨f, z, y2, y3, y4⟩
            · right
              rw [z, hr0] at y4
              injection y4 with y4
              have y5 : v = w := y4
              subst y5
              exact (b4 v hw).mpr ⟨by rw [q1]; simp, q3⟩
        · rw [if_neg hk0, g2 w hw]
          constructor
          · exact up w _ (by omega)
          · rintro ⟨f, y1, y2, y3, y4⟩
            rcases (hyb f (by omega)).mp y1 with z | z
            · exact ⟨f, z, y2, y3, y4⟩
            · rw [z, kind_get hmg] at y3
              exact absurd y3 hk0
      · rcases (hyb q q1).mp q2 with z | z
        · exact g3 q q1 z
        · rw [z, kind_get hmg]
          exact ⟨by omega, hk1⟩
      · rcases (hyb k (by omega)).mp k2 with z | z
        · exact up w k (by omega) (g4 k k1 z k3 w hw hrw)
        · subst z
          have hk1' : S.ckind = 1 := by rw [kind_get hmg] at k3; exact k3
          rw [row_get hmg] at hw
          have hw' : w ∈ S.crow := hw
          rw [rol_ext e (b3 w hw').1] at hrw
          have hstg : 9 ≤ S.stage := by
            rcases hst with z | z
            · have := i6.2.2.1 (Or.inr z.symm)
              omega
            · exact z
          exact up w _ (by omega) (((i6.2.2.2.2.2.2.2.2 hstg).2 w hw' hrw).ext e (Nat.le_refl _))
    · rw [if_neg hk1, if_neg (by omega)]
      exact ⟨g1, g2, g3, g4⟩
  · rw [ho] at hto
    obtain ⟨y1, y2, y3⟩ := i3' t o hto
    refine ⟨hfr _ _ _ y1, by rw [hp]; exact y2, ?_⟩
    rw [ho]; exact y3
  · rw [hp] at hpp
    obtain ⟨y1, ⟨y2, y3⟩, y4, y5⟩ := i4 p hpp
    exact ⟨y1, ⟨by omega, by rw [rol_ext e y2]; exact y3⟩, by omega, by rw [rol_ext e y4]; exact y5⟩
  · rw [ha] at hj
    have uq : ∀ (jj : Nat) (kk : Nat), (∀ (k' : Nat) (s' : RSm), S.sms[k']? = some s' → 2 ≤ s'.kind → s'.asn = jj → k' = kk) → jj ≠ S.ass.length → ∀ (k' : Nat) (s' : RSm), S'.sms[k']? = some s' → 2 ≤ s'.kind → s'.asn = jj → k' = kk := by
      intro jj kk h1 h2 k' s' hk' hk2 hk3
      rw [hs] at hk'
      rcases ap_get hk' with ⟨_, z⟩ | ⟨_, z⟩
      · exact h1 k' s' z hk2 hk3
      · rw [z] at hk3
        exact absurd hk3.symm h2
    have old : S.ass[j]? = some y → y.prs.length ≤ 40 ∧ y.hgt ≤ 16 ∧ y.stm < S'.sms.length ∧ ∃ s, S'.sms[y.stm]? = some s ∧ 2 ≤ s.kind ∧ s.asn = j ∧ ∀ (k' : Nat) (s' : RSm), S'.sms[k']? = some s' → 2 ≤ s'.kind → s'.asn = j → k' = y.stm := fun z => by
      have hjl := lt_get z
      obtain ⟨z1, z2, z3, s, z4, z5, z6, z7⟩ := i9 j y z
      exact ⟨z1, z2, by omega, s, e.2.1 _ s z4, z5, z6, uq j y.stm z7 (by omega)⟩
    by_cases hk1 : S.ckind ≤ 1
    · rw [if_pos hk1] at hj; exact old hj
    · rw [if_neg hk1] at hj
      rcases ap_get hj with ⟨_, z⟩ | ⟨z1, z⟩
      · exact old z
      · subst z1; subst z
        obtain ⟨q1, q2, q3⟩ := hB (by omega)
        refine ⟨q1.2.2.2.1, q2, by rw [q3]; omega, _, by rw [q3]; exact hmg, by show 2 ≤ S.ckind; omega, rfl, fun k' s' hk' hk2 hk3 => ?_⟩
        rw [q3]
        rw [hs] at hk'
        rcases ap_get hk' with ⟨y1, y2⟩ | ⟨y1, _⟩
        · have := ((i2 k' s' y2).2.2.2.2 hk2).1
          omega
        · exact y1
theorem iv_open {S S' : RSt} (h : Iv S) (hs : S.stage = 0) (he : openS S = .ok S') : Iv S' ∧ S'.stage = 0 := by
  unfold openS at he
  by_cases q : 6 ≤ S.out.length
  · rw [if_pos q] at he; cases he
  · rw [if_neg q] at he
    injection he with he
    obtain ⟨⟨o1, o2, o3, o4, o5, o6⟩, i1, i2, ⟨i3, i3'⟩, i4, i5, i6, i7, i8, i9⟩ := h
    subst he
    refine ⟨⟨⟨o1, o2, o3, ?_, o5, o6⟩, i1, i2, ⟨i3, fun t o hto => ?_⟩, i4, i5, i6, i7, i8, i9⟩, hs⟩
    · show (S.out ++ [_]).length ≤ 6
      rw [List.length_append]; show S.out.length + 1 ≤ 6; omega
    · have hto2 : (S.out ++ [(S.vars, S.typed, S.hyps, S.prs.length)])[t]? = some o := hto
      rcases ap_get hto2 with ⟨z1, z⟩ | ⟨z1, z⟩
      · obtain ⟨y1, y2, y3⟩ := i3' t o z
        refine ⟨y1, y2, fun u q' hu htu => ?_⟩
        have hu2 : (S.out ++ [(S.vars, S.typed, S.hyps, S.prs.length)])[u]? = some q' := hu
        rcases ap_get hu2 with ⟨_, w⟩ | ⟨_, w⟩
        · exact y3 u q' w htu
        · rw [w]; exact y2
      · subst z
        refine ⟨i3, Nat.le_refl _, fun u q' hu htu => ?_⟩
        have hu2 : (S.out ++ [(S.vars, S.typed, S.hyps, S.prs.length)])[u]? = some q' := hu
        rcases ap_get hu2 with ⟨w1, _⟩ | ⟨_, w⟩
        · omega
        · rw [w]; exact Nat.le_refl _
theorem iv_close {S S' : RSt} (h : Iv S) (hs : S.stage = 0) (he : closeS S = .ok S') : Iv S' ∧ S'.stage = 0 := by
  unfold closeS at he
  cases ho : S.out[S.out.length - 1]? with
  | none => rw [ho] at he; cases he
  | some o =>
    rw [ho] at he
    injection he with he
    obtain ⟨⟨o1, o2, o3, o4, o5, o6⟩, i1, i2, ⟨i3, i3'⟩, i4, i5, i6, i7, i8, i9⟩ := h
    have hlt := lt_get ho
    obtain ⟨y1, y2, y3⟩ := i3' _ o ho
    have hl : (S.prs.take o.2.2.2).length = o.2.2.2 := by rw [List.length_take]; omega
    subst he
    have htk : ∀ (t : Nat) (q : Int64 × Int64 × Int64 × Nat), (S.out.take (S.out.length - 1))[t]? = some q → S.out[t]? = some q ∧ t < S.out.length - 1 := fun t q hq => by
      have := lt_get hq
      rw [List.length_take] at this
      rw [List.getElem?_take, if_pos (by omega)] at hq
      exact ⟨hq, by omega⟩
    refine ⟨⟨⟨o1, o2, o3, ?_, ?_, o6⟩, i1, i2, ⟨y1, fun t q hq => ?_⟩, fun p hp => i4 p (List.mem_of_mem_take hp), ⟨fun w => ?_, fun w => ?_, fun w => ?_, fun w => ?_⟩, (cur0 (by show S.stage < 4; omega)).1, (cur0 (by show S.stage < 4; omega)).2.1, (cur0 (by show S.stage < 4; omega)).2.2, i9⟩, hs⟩
    · show (S.out.take _).length ≤ 6
      rw [List.length_take]; omega
    · show (S.prs.take _).length ≤ 40
      rw [List.length_take]; omega
    · obtain ⟨q1, q2⟩ := htk t q hq
      obtain ⟨z1, z2, z3⟩ := i3' t q q1
      refine ⟨z1, ?_, fun u r hr htu => z3 u r (htk u r hr).1 htu⟩
      show q.2.2.2 ≤ (S.prs.take o.2.2.2).length
      rw [hl]
      exact z3 _ o ho (by omega)
    · have w2 : S.stage = 1 := w
      omega
    · have w2 : S.stage = 2 := w
      omega
    · have w2 : S.stage = 3 := w
      omega
    · have w2 : S.stage = 3 := w
      omega
theorem iv_names {S S' : RSt} {k : Nat} (h : Iv S) (hs : S.stage = 0) (hk : 1 ≤ k ∧ k ≤ 3) (he : beginNamesS S k = .ok S') : Iv S' ∧ S'.stage < 4 := by
  unfold beginNamesS at he
  injection he with he
  obtain ⟨⟨o1, o2, o3, o4, o5, o6⟩, i1, i2, i3, i4, i5, i6, i7, i8, i9⟩ := h
  subst he
  refine ⟨⟨⟨o1, o2, o3, o4, o5, by show k ≤ 13; omega⟩, i1, i2, i3, i4, ⟨fun _ => Nat.zero_le _, fun _ => Nat.zero_le _, fun _ => ⟨Nat.zero_le _, rfl, ?_, fun v hv => ?_⟩, fun _ v hv => ?_⟩, (cur0 (by show k < 4; omega)).1, (cur0 (by show k < 4; omega)).2.1, (cur0 (by show k < 4; omega)).2.2, i9⟩, by show k < 4; omega⟩
  · show (hsOf S.nms.length (Int64.ofNat 0)).length = 0
    rw [hsOf_cnt]
    exact cnt_false (fun i _ => tb_zero i)
  · show tb (Int64.ofNat 0) v = true ↔ v ∈ ([] : List Nat)
    rw [tb_zero]; simp
  · have hv2 : v ∈ ([] : List Nat) := hv
    cases hv2
theorem iv_endNames {S S' : RSt} {k : Int} (h : Iv S) (he : endNamesS S k = .ok S') : Iv S' ∧ S'.stage = 0 := by
  unfold endNamesS at he
  by_cases q : k ≠ 46 ∨ S.taken < (if S.stage = 3 then 2 else 1)
  · rw [if_pos q] at he; cases he
  · rw [if_neg q] at he
    injection he with he
    obtain ⟨⟨o1, o2, o3, o4, o5, o6⟩, i1, i2, i3, i4, i5, i6, i7, i8, i9⟩ := h
    subst he
    exact ⟨⟨⟨o1, o2, o3, o4, o5, by show 0 ≤ 13; decide⟩, i1, i2, i3, i4, lab5 (Or.inl rfl), (cur0 (by show 0 < 4; decide)).1, (cur0 (by show 0 < 4; decide)).2.1, (cur0 (by show 0 < 4; decide)).2.2, i9⟩, rfl⟩
