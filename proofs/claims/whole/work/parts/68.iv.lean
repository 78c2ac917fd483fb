/-! ===== what holds of every state stays: variables, pairs, scopes, expressions ===== -/
/-- no statement is open -/
theorem cur0 {S : RSt} (h : S.stage < 4) : I6 S ∧ I7 S ∧ I8 S := ⟨⟨fun w => by omega, fun w => by omega, fun w => by omega, fun w => by omega, fun w => by omega, fun w => by omega, fun w => by omega, fun w => by omega, fun w => by omega⟩, fun w => by omega, fun w => by omega⟩
theorem lab5 {S : RSt} (h : S.stage = 0 ∨ 4 ≤ S.stage) : I5 S := ⟨fun w => by omega, fun w => by omega, fun w => by omega, fun w => by omega⟩
theorem iv_declareVariable {S S' : RSt} {c : Int64} (h : Iv S) (hs : S.stage = 2) (he : declareVariableS S c = .ok S') : Iv S' ∧ S'.stage = 2 := by
  unfold declareVariableS at he
  have n60 := h.1.1
  have i5 := h.2.2.2.2.2.1.2.1 hs
  by_cases q : fnd S c = -1
  · rw [if_pos q] at he
    by_cases q2 : 60 ≤ S.nms.length
    · rw [if_pos q2] at he; cases he
    · rw [if_neg q2] at he
      injection he with he
      -- first the name alone
      have hn : (S.uNms (S.nms ++ [(c, 1, 0)])).nms = S.nms ++ [(c, 1, 0)] := rfl
      have e : Ext S (S.uNms (S.nms ++ [(c, 1, 0)])) := ⟨fun i x hx => app_ext _ _ i x hx, fun k s hk => hk, fun j x hx => hx⟩
      have hl : (S.uNms (S.nms ++ [(c, 1, 0)])).nms.length = S.nms.length + 1 := by rw [hn, List.length_append]; rfl
      obtain ⟨b1, b2, b3, ⟨b4, b4'⟩, b5, b6⟩ := base_ext h e (by omega) rfl rfl rfl (fun i x hx => by
        rw [hn] at hx
        rcases ap_get hx with ⟨_, z⟩ | ⟨_, z⟩
        · exact Or.inl z
        · right; rw [z]; exact ⟨by show 1 ≤ 2; decide, fun w => absurd (show (1 : Nat) = 2 from w) (by decide)⟩)
      have hv0 : tb S.vars S.nms.length = false := by
        cases hq : tb S.vars S.nms.length with
        | false => rfl
        | true => have := (h.2.2.2.1.1.1 _ (by omega) hq).1; omega
      subst he
      refine ⟨⟨⟨b1.1, b1.2.1, b1.2.2.1, b1.2.2.2.1, b1.2.2.2.2, by show S.stage ≤ 13; omega⟩, b2, b3, ⟨⟨fun v v1 v2 => ?_, b4.2⟩, b4'⟩, b5, ⟨fun w => by have w2 : S.stage = 1 := w; omega, fun _ => ?_, fun w => by have w2 : S.stage = 3 := w; omega, fun w => by have w2 : S.stage = 3 := w; omega⟩, (cur0 (by show S.stage < 4; omega)).1, (cur0 (by show S.stage < 4; omega)).2.1, (cur0 (by show S.stage < 4; omega)).2.2, b6⟩, hs⟩
      · have v3 : tb (S.vars ||| bit S.nms.length) v = true := v2
        rw [tb_orbit (by omega) v1] at v3
        by_cases qv : v = S.nms.length
        · subst qv
          exact ⟨by show S.nms.length < (S.nms ++ [(c, 1, 0)]).length; rw [List.length_append]; exact Nat.lt_succ_self _, rol_app (S := S) (x := (c, 1, 0)) rfl⟩
        · rw [decide_eq_false qv, Bool.or_false] at v3
          exact b4.1 v v1 v3
      · show S.taken + 1 ≤ cnt (tb (S.vars ||| bit S.nms.length)) 64
        rw [cnt_set (p := tb S.vars) (u := S.nms.length) 64 (by omega) hv0 (fun i hi => tb_orbit (by omega) hi)]
        omega
  · rw [if_neg q] at he
    rcases fnd_cases S c with w | ⟨u, x, q1, q2, q3, q4⟩
    · exact absurd w q
    · rw [q1, Int.toNat_natCast] at he
      by_cases q5 : rol S u ≠ 1 ∨ tb S.vars u = true
      · rw [if_pos q5] at he; cases he
      · rw [if_neg q5] at he
        injection he with he
        have r1 : rol S u = 1 := Classical.byContradiction (fun z => q5 (Or.inl z))
        have r2 : tb S.vars u = false := by
          cases hq : tb S.vars u with
          | false => rfl
          | true => exact absurd (Or.inr hq) q5
        subst he
        obtain ⟨i0, i1, i2, ⟨i3, i3'⟩, i4, _, _, _, _, i9⟩ := h
        refine ⟨⟨i0, i1, i2, ⟨⟨fun v v1 v2 => ?_, i3.2⟩, i3'⟩, i4, ⟨fun w => by have w2 : S.stage = 1 := w; omega, fun _ => ?_, fun w => by have w2 : S.stage = 3 := w; omega, fun w => by have w2 : S.stage = 3 := w; omega⟩, (cur0 (by show S.stage < 4; omega)).1, (cur0 (by show S.stage < 4; omega)).2.1, (cur0 (by show S.stage < 4; omega)).2.2, i9⟩, hs⟩
        · have v3 : tb (S.vars ||| bit u) v = true := v2
          rw [tb_orbit (by omega) v1] at v3
          by_cases qv : v = u
          · subst qv; exact ⟨q2, r1⟩
          · rw [decide_eq_false qv, Bool.or_false] at v3
            exact i3.1 v v1 v3
        · show S.taken + 1 ≤ cnt (tb (S.vars ||| bit u)) 64
          rw [cnt_set (p := tb S.vars) (u := u) 64 (by omega) r2 (fun i hi => tb_orbit (by omega) hi)]
          omega
theorem mem_hsOf {k : Nat} {x : Int64} {h : Nat} : h ∈ hsOf k x ↔ h < k ∧ tb x h = true := by
  unfold hsOf; rw [List.mem_filter, List.mem_range]
theorem iv_takeApart {S S' : RSt} {c : Int64} (h : Iv S) (hs : S.stage = 3) (he : takeApartS S (fnd S c) = .ok S') : Iv S' ∧ S'.stage = 3 := by
  unfold takeApartS at he
  have n60 := h.1.1
  by_cases q : mean S (fnd S c) = 1
  · rw [if_neg (fun z => z q)] at he
    rcases mean_cases S c with w | ⟨u, x, q1, q2, q3, ⟨q4, q5⟩ | ⟨q4, q5, q6⟩⟩
    · rw [w] at q; exact absurd q (by decide)
    · rw [q4] at q; exact absurd q (by decide)
    · rw [q1, Int.toNat_natCast] at he
      by_cases q7 : tb S.tv u = true
      · rw [if_pos q7] at he; cases he
      · rw [if_neg q7] at he
        by_cases q8 : 40 < S.prs.length + S.taken
        · rw [if_pos q8] at he; cases he
        · rw [if_neg q8] at he
          injection he with he
          subst he
          obtain ⟨⟨o1, o2, o3, o4, o5, o6⟩, i1, i2, ⟨i3, i3'⟩, i4, ⟨_, _, i5, i5'⟩, _, _, _, i9⟩ := h
          obtain ⟨t1, t2, t3, t4⟩ := i5 hs
          have hv := i3.1 u (by omega) q6
          have hpl : (S.prs ++ (hsOf S.nms.length S.tv).map (fun o => (o, u))).length = S.prs.length + S.taken := by rw [List.length_append, List.length_map, t3]
          refine ⟨⟨⟨o1, o2, o3, o4, ?_, o6⟩, i1, i2, ⟨i3, fun t o ho => ⟨(i3' t o ho).1, ?_, (i3' t o ho).2.2⟩⟩, fun p hp => ?_, ⟨fun w => by have w2 : S.stage = 1 := w; omega, fun w => by have w2 : S.stage = 2 := w; omega, fun _ => ⟨?_, ?_, ?_, fun v v1 => ?_⟩, fun _ v hv' => ?_⟩, (cur0 (by show S.stage < 4; omega)).1, (cur0 (by show S.stage < 4; omega)).2.1, (cur0 (by show S.stage < 4; omega)).2.2, i9⟩, hs⟩
          · show (S.prs ++ _).length ≤ 40
            rw [hpl]; omega
          · show o.2.2.2 ≤ (S.prs ++ _).length
            rw [hpl]
            have := (i3' t o ho).2.1
            omega
          · have hp2 : p ∈ S.prs ++ (hsOf S.nms.length S.tv).map (fun o => (o, u)) := hp
            rw [List.mem_append, List.mem_map] at hp2
            rcases hp2 with hp2 | ⟨o, ho, rfl⟩
            · exact i4 p hp2
            · rw [mem_hsOf] at ho
              have hot : o ∈ S.tl := (t4 o (by omega)).mp ho.2
              refine ⟨fun z => q7 ?_, i5' hs o hot, hv⟩
              have z2 : o = u := z
              rw [← z2]; exact ho.2
          · show S.taken + 1 ≤ (S.prs ++ _).length + 1
            rw [hpl]; omega
          · show S.taken + 1 = (S.tl ++ [u]).length
            rw [List.length_append, t2]; rfl
          · show (hsOf S.nms.length (S.tv ||| bit u)).length = S.taken + 1
            rw [hsOf_cnt, cnt_set (p := tb S.tv) (u := u) S.nms.length q2 (by cases hq : tb S.tv u with | false => rfl | true => exact absurd hq q7) (fun i hi => tb_orbit (by omega) (by omega)), ← hsOf_cnt, t3]
          · show tb (S.tv ||| bit u) v = true ↔ v ∈ S.tl ++ [u]
            rw [tb_orbit (by omega) v1, List.mem_append, List.mem_singleton, Bool.or_eq_true, decide_eq_true_eq, t4 v v1]
          · have hv2 : v ∈ S.tl ++ [u] := hv'
            rw [List.mem_append, List.mem_singleton] at hv2
            rcases hv2 with hv2 | hv2
            · exact i5' hs v hv2
            · rw [hv2]; exact hv
  · rw [if_pos q] at he
    split at he <;> cases he
theorem iv_takeLabel {S S' : RSt} {c : Int64} (h : Iv S) (hs : S.stage = 0) (he : takeLabelS S c = .ok S') : Iv S' ∧ S'.stage = 4 := by
  unfold takeLabelS at he
  by_cases q : fnd S c = -1
  · rw [if_neg (fun z => z q)] at he
    by_cases q2 : 60 ≤ S.nms.length ∨ 40 ≤ S.sms.length
    · rw [if_pos q2] at he; cases he
    · rw [if_neg q2] at he
      injection he with he
      subst he
      obtain ⟨⟨o1, o2, o3, o4, o5, o6⟩, i1, i2, i3, i4, _, _, _, _, i9⟩ := h
      have hst : ((((S.uStage 4).uClab c).uCrow []).uCvs (Int64.ofNat 0)).stage = 4 := rfl
      refine ⟨⟨⟨o1, o2, o3, o4, o5, by omega⟩, i1, i2, i3, i4, lab5 (Or.inr (by omega)), ⟨fun _ => ⟨by show S.nms.length < 60; omega, by show S.sms.length < 40; omega, fun v hv => ?_, fun v hv => ?_, q⟩, fun _ => rfl, fun w => by omega, fun w => by omega, fun w => by omega, fun w => by omega, fun w => by omega, fun w => by omega, fun w => by omega⟩, fun w => by omega, fun w => by omega, i9⟩, rfl⟩
      · have hv2 : v ∈ ([] : List Nat) := hv
        cases hv2
      · show tb (Int64.ofNat 0) v = true ↔ v ∈ ([] : List Nat) ∧ _
        rw [tb_zero]
        simp
  · rw [if_pos q] at he; cases he
theorem iv_takeKind {S S' : RSt} {k : Int} (h : Iv S) (hs : S.stage = 4) (he : takeKindS S k = .ok S') : Iv S' ∧ 4 ≤ S'.stage := by
  obtain ⟨⟨o1, o2, o3, o4, o5, o6⟩, i1, i2, i3, i4, _, ⟨a1, a2, _⟩, _, _, i9⟩ := h
  have b1 := a1 (by omega)
  have b2 := a2 (by omega)
  have key : ∀ (v t : Nat), (t = 5 ∧ v = 0) ∨ (t = 8 ∧ 1 ≤ v ∧ v ≤ 3) → Iv ((S.uCkind v).uStage t) := by
    intro v t hvt
    refine ⟨⟨o1, o2, o3, o4, o5, by show t ≤ 13; omega⟩, i1, i2, i3, i4, lab5 (Or.inr (by show 4 ≤ t; omega)), ⟨fun _ => b1, fun _ => b2, fun w => ?_, fun _ => ?_, fun w => ?_, fun w => ?_, fun w => ?_, fun w => ?_, fun w => ?_⟩, fun w => ?_, fun w => ?_, i9⟩
    · have w2 : t = 6 ∨ t = 7 := w
      omega
    · show v ≤ 3
      omega
    · have w2 : t = 5 := w
      show v = 0
      omega
    · have w2 : 8 ≤ t := w
      show 1 ≤ v
      omega
    · have w2 : t = 6 := w
      omega
    · have w2 : t = 7 := w
      omega
    · have w2 : 9 ≤ t := w
      omega
    · have w2 : 10 ≤ t := w
      omega
    · have w2 : 12 ≤ t := w
      omega
  unfold takeKindS at he
  split at he
  · injection he with he; subst he; exact ⟨key 2 8 (Or.inr ⟨rfl, by decide, by decide⟩), by show 4 ≤ 8; decide⟩
  · split at he
    · injection he with he; subst he; exact ⟨key 1 8 (Or.inr ⟨rfl, by decide, by decide⟩), by show 4 ≤ 8; decide⟩
    · split at he
      · injection he with he; subst he; exact ⟨key 0 5 (Or.inl ⟨rfl, rfl⟩), by show 4 ≤ 5; decide⟩
      · split at he
        · injection he with he; subst he; exact ⟨key 3 8 (Or.inr ⟨rfl, by decide, by decide⟩), by show 4 ≤ 8; decide⟩
        · cases he
theorem MK.app {S : RSt} {l : List Nat} {x : Int64} (h : MK S l x) {u : Nat} (hu : u < 64) (hr : rol S u = 1) : MK S (l ++ [u]) (x ||| bit u) := by
  intro v hv
  rw [tb_orbit hu hv, Bool.or_eq_true, decide_eq_true_eq, h v hv, List.mem_append, List.mem_singleton]
  constructor
  · rintro (q | q)
    · exact ⟨Or.inl q.1, q.2⟩
    · exact ⟨Or.inr q, by rw [q]; exact hr⟩
  · rintro ⟨q | q, q2⟩
    · exact Or.inl ⟨q, q2⟩
    · exact Or.inr q
theorem MK.app0 {S : RSt} {l : List Nat} {x : Int64} (h : MK S l x) {u : Nat} (hr : rol S u ≠ 1) : MK S (l ++ [u]) x := by
  intro v hv
  rw [h v hv, List.mem_append, List.mem_singleton]
  constructor
  · intro q; exact ⟨Or.inl q.1, q.2⟩
  · rintro ⟨q | q, q2⟩
    · exact ⟨q, q2⟩
    · rw [q] at q2; exact absurd q2 hr
theorem iv_takeType {S S' : RSt} {c : Int64} (h : Iv S) (hs : S.stage = 5 ∨ S.stage = 8) (he : takeTypeS S (fnd S c) = .ok S') : Iv S' := by
  unfold takeTypeS at he
  by_cases q : mean S (fnd S c) = 0
  · rw [if_neg (fun z => z q)] at he
    rcases mean_cases S c with w | ⟨u, x, q1, q2, q3, ⟨q4, q5⟩ | ⟨q4, q5, q6⟩⟩
    · rw [w] at q; exact absurd q (by decide)
    · rw [q1, Int.toNat_natCast] at he
      injection he with he
      obtain ⟨⟨o1, o2, o3, o4, o5, o6⟩, i1, i2, i3, i4, -, ⟨a1, a2, a3, a4, a5, a6, -⟩, -, -, i9⟩ := h
      obtain ⟨b1, b2, b3, b4, b5⟩ := a1 (by omega)
      have hr : rol S u = 0 := by rw [rol_get q3]; exact q5
      have hcr : S.crow = [] := a2 (by omega)
      have hcr' : S.crow ++ [u] = [u] := by rw [hcr]; rfl
      have hmem : ∀ v ∈ S.crow ++ [u], v < S.nms.length ∧ rol S v ≤ 1 := by
        rw [hcr']; intro v hv; rw [List.mem_singleton] at hv; subst hv; exact ⟨q2, by omega⟩
      have hMK : MK S (S.crow ++ [u]) S.cvs := b4.app0 (by omega)
      have k3 := a4 (by omega)
      subst he
      rcases hs with hs | hs
      · have hst : ((S.uCrow (S.crow ++ [u])).uStage (if S.stage = 5 then 6 else 9)).stage = 6 := by show (if S.stage = 5 then 6 else 9) = 6; rw [if_pos hs]
        refine ⟨⟨o1, o2, o3, o4, o5, by omega⟩, i1, i2, i3, i4, lab5 (Or.inr (by omega)), ⟨fun _ => ⟨b1, b2, hmem, hMK, b5⟩, fun w => by omega, fun _ => a5 hs, fun _ => k3, fun w => by omega, fun w => by omega, fun _ => ⟨u, hcr', hr⟩, fun w => by omega, fun w => by omega⟩, fun w => by omega, fun w => by omega, i9⟩
      · have hst : ((S.uCrow (S.crow ++ [u])).uStage (if S.stage = 5 then 6 else 9)).stage = 9 := by show (if S.stage = 5 then 6 else 9) = 9; rw [if_neg (by omega)]
        refine ⟨⟨o1, o2, o3, o4, o5, by omega⟩, i1, i2, i3, i4, lab5 (Or.inr (by omega)), ⟨fun _ => ⟨b1, b2, hmem, hMK, b5⟩, fun w => by omega, fun w => by omega, fun _ => k3, fun w => by omega, fun _ => a6 (by omega), fun w => by omega, fun w => by omega, fun _ => ⟨⟨?_, ?_, hmem, ?_⟩, ?_⟩⟩, fun w => by omega, fun w => by omega, i9⟩
        · show 1 ≤ (S.crow ++ [u]).length
          rw [hcr']; exact Nat.le_refl 1
        · show (S.crow ++ [u]).length ≤ 24
          rw [hcr']; show 1 ≤ 24; decide
        · show ∀ c', (S.crow ++ [u]).head? = some c' → rol S c' = 0
          rw [hcr']; intro c' hc'; injection hc' with hc'; subst hc'; exact hr
        · show ∀ v ∈ S.crow ++ [u], rol S v = 1 → _
          rw [hcr']; intro v hv hrv; rw [List.mem_singleton] at hv; subst hv; omega
    · rw [q4] at q; exact absurd q (by decide)
  · rw [if_pos q] at he
    split at he <;> cases he
theorem role1 {S : RSt} (h : Iv S) {u : Nat} (hu : u < S.nms.length) (hv : tb S.vars u = true) : rol S u = 1 := (h.2.2.2.1.1.1 u (by have := h.1.1; omega) hv).2
theorem iv_takeFloating {S S' : RSt} {c : Int64} (h : Iv S) (hs : S.stage = 6) (he : takeFloatingS S (fnd S c) = .ok S') : Iv S' := by
  unfold takeFloatingS at he
  have n60 := h.1.1
  by_cases q : mean S (fnd S c) = 1
  · rw [if_neg (fun z => z q)] at he
    rcases mean_cases S c with w | ⟨u, x, q1, q2, q3, ⟨q4, q5⟩ | ⟨q4, q5, q6⟩⟩
    · rw [w] at q; exact absurd q (by decide)
    · rw [q4] at q; exact absurd q (by decide)
    · rw [q1, Int.toNat_natCast] at he
      have hr : rol S u = 1 := role1 h q2 q6
      by_cases q7 : tb S.typed u = true
      · rw [if_pos q7] at he; cases he
      · rw [if_neg q7] at he
        injection he with he
        obtain ⟨⟨o1, o2, o3, o4, o5, o6⟩, i1, i2, i3, i4, -, ⟨a1, a2, a3, a4, a5, a6, a7, -⟩, -, -, i9⟩ := h
        obtain ⟨b1, b2, b3, b4, b5⟩ := a1 (by omega)
        obtain ⟨cc, hcr, hcc⟩ := a7 hs
        have hcr' : S.crow ++ [u] = [cc, u] := by rw [hcr]; rfl
        have hmem : ∀ v ∈ S.crow ++ [u], v < S.nms.length ∧ rol S v ≤ 1 := by
          intro v hv
          rw [List.mem_append, List.mem_singleton] at hv
          rcases hv with hv | hv
          · exact b3 v hv
          · rw [hv]; exact ⟨q2, by omega⟩
        subst he
        have hst : (((S.uCrow (S.crow ++ [u])).uCvs (S.cvs ||| bit u)).uStage 7).stage = 7 := rfl
        exact ⟨⟨o1, o2, o3, o4, o5, by omega⟩, i1, i2, i3, i4, lab5 (Or.inr (by omega)), ⟨fun _ => ⟨b1, b2, hmem, b4.app (by omega) hr, b5⟩, fun w => by omega, fun _ => a3 (Or.inl hs), fun _ => a4 (by omega), fun w => by omega, fun w => by omega, fun w => by omega, fun _ => ⟨cc, u, hcr', hcc, hr, q6, by cases hq : tb S.typed u with | false => rfl | true => exact absurd hq q7⟩, fun w => by omega⟩, fun w => by omega, fun w => by omega, i9⟩
  · rw [if_pos q] at he
    split at he <;> cases he
theorem iv_takeSymbol {S S' : RSt} {c : Int64} (h : Iv S) (hs : S.stage = 9) (he : takeSymbolS S (fnd S c) = .ok S') : Iv S' := by
  have n60 := h.1.1
  obtain ⟨⟨o1, o2, o3, o4, o5, o6⟩, i1, i2, i3, i4, _, ⟨a1, a2, a3, a4, a5, a6, a7, a8, a9⟩, _, _, i9⟩ := h
  obtain ⟨b1, b2, b3, b4, b5⟩ := a1 (by omega)
  obtain ⟨⟨r1, r2, r3, r4⟩, r5⟩ := a9 (by omega)
  have key : ∀ (u : Nat) (x : Int64), u < S.nms.length → rol S u ≤ 1 → S.crow.length + 1 ≤ 24 → MK S (S.crow ++ [u]) x → (rol S u = 1 → FV S (fun h => tb S.hyps h = true) u S.sms.length) → Iv ((S.uCrow (S.crow ++ [u])).uCvs x) := by
    intro u x hu hr hl hm hf
    have hmem : ∀ v ∈ S.crow ++ [u], v < S.nms.length ∧ rol S v ≤ 1 := by
      intro v hv
      rw [List.mem_append, List.mem_singleton] at hv
      rcases hv with hv | hv
      · exact b3 v hv
      · rw [hv]; exact ⟨hu, hr⟩
    have hst : ((S.uCrow (S.crow ++ [u])).uCvs x).stage = 9 := hs
    refine ⟨⟨o1, o2, o3, o4, o5, by omega⟩, i1, i2, i3, i4, lab5 (Or.inr (by omega)), ⟨fun _ => ⟨b1, b2, hmem, hm, b5⟩, fun w => by omega, fun w => by omega, fun _ => a4 (by omega), fun w => by omega, fun _ => a6 (by omega), fun w => by omega, fun w => by omega, fun _ => ⟨⟨?_, ?_, hmem, ?_⟩, ?_⟩⟩, fun w => by omega, fun w => by omega, i9⟩
    · show 1 ≤ (S.crow ++ [u]).length
      rw [List.length_append]; omega
    · show (S.crow ++ [u]).length ≤ 24
      rw [List.length_append]; exact hl
    · show ∀ c', (S.crow ++ [u]).head? = some c' → rol S c' = 0
      intro c' hc'
      apply r4
      cases hc : S.crow with
      | nil => rw [hc] at r1; simp at r1
      | cons y l => rw [hc] at hc'; exact hc'
    · show ∀ v ∈ S.crow ++ [u], rol S v = 1 → _
      intro v hv hrv
      rw [List.mem_append, List.mem_singleton] at hv
      rcases hv with hv | hv
      · exact r5 v hv hrv
      · rw [hv] at hrv ⊢; exact hf hrv
  unfold takeSymbolS at he
  rcases mean_cases S c with w | ⟨u, x, q1, q2, q3, ⟨q4, q5⟩ | ⟨q4, q5, q6⟩⟩
  · rw [if_pos (Or.inl w)] at he; cases he
  · rw [q4, if_neg (by omega), q1, Int.toNat_natCast, if_neg (show ¬ (0 : Int) = 1 by decide)] at he
    by_cases q : 24 < S.crow.length + 1
    · rw [if_pos q] at he; cases he
    · rw [if_neg q] at he
      injection he with he
      have hr : rol S u = 0 := by rw [rol_get q3]; exact q5
      subst he
      exact key u S.cvs q2 (by omega) (by omega) (b4.app0 (by omega)) (fun z => by omega)
  · have hr : rol S u = 1 := (i3.1.1 u (by omega) q6).2
    rw [q4, q1, Int.toNat_natCast, if_pos (show (1 : Int) = 1 from rfl)] at he
    by_cases ht : tb S.typed u = false
    · rw [if_pos (Or.inr ⟨rfl, ht⟩)] at he; cases he
    · rw [if_neg (fun z => z.elim (fun w => absurd w (by decide)) (fun w => ht w.2))] at he
      by_cases q : 24 < S.crow.length + 1
      · rw [if_pos q] at he; cases he
      · rw [if_neg q] at he
        injection he with he
        have ht' : tb S.typed u = true := by cases hq : tb S.typed u with | true => rfl | false => exact absurd hq ht
        subst he
        exact key u _ q2 (by omega) (by omega) (b4.app (by omega) hr) (fun _ => (i3.1.2.1 u (by omega)).mp ht')
