/-! ===== what holds of every state stays: proofs ===== -/
theorem iv_endSymbols {S S' : RSt} {k : Int} (h : Iv S) (hs : S.stage = 9) (he : endSymbolsS S k = .ok S') : Iv S' ∧ (S'.stage = 0 ∨ S'.stage = 10) := by
  have hB := bnd_begin h hs
  unfold endSymbolsS at he
  by_cases q : k ≠ (if S.ckind = 3 then 61 else 46)
  · rw [if_pos q] at he; cases he
  · rw [if_neg q] at he
    by_cases q1 : S.ckind ≤ 1
    · rw [if_pos q1] at he
      obtain ⟨y1, y2⟩ := iv_declare (S' := S') h (Or.inr (by omega)) S.cmand S.cmand S.ca (fun z => by omega) he
      exact ⟨y1, Or.inl y2⟩
    · rw [if_neg q1] at he
      by_cases q3 : S.ckind ≠ 3
      · rw [if_pos q3] at he
        obtain ⟨y1, y2⟩ := iv_declare (S' := S') h (Or.inr (by omega)) S.cmand (mM S) (S.sms.length, pairsOf S.nms.length (apOf S.prs) (mV S), 0, 0, fun _ => 0, false, true) (fun z => ⟨hB, by show 0 ≤ 16; decide, rfl⟩) he
        exact ⟨y1, Or.inl y2⟩
      · rw [if_neg q3] at he
        injection he with he
        obtain ⟨⟨o1, o2, o3, o4, o5, o6⟩, i1, i2, i3, i4, -, i6, -, -, i9⟩ := h
        have j1 := i6.1 (by omega)
        have j2 := i6.2.2.2.2.2.2.2.2 (by omega)
        have j3 := i6.2.2.2.2.2.1 (by omega)
        have j4 := i6.2.2.2.1 (by omega)
        have hc3 : S.ckind = 3 := by omega
        clear i6
        have hst : S'.stage = 10 := by rw [← he]
        subst he
        refine ⟨⟨⟨o1, o2, o3, o4, o5, by omega⟩, i1, i2, i3, i4, lab5 (Or.inr (by omega)), ⟨fun _ => j1, fun w => by omega, fun w => by omega, fun _ => j4, fun w => by omega, fun _ => j3, fun w => by omega, fun w => by omega, fun _ => j2⟩, fun _ => ⟨hc3, rfl, hB, Nat.zero_le _, Nat.zero_le _, fun e he => ?_, rfl, ?_⟩, fun w => by omega, i9⟩, Or.inr hst⟩
        · have he2 : e ∈ ([] : List (List Nat × Int64)) := he
          cases he2
        · show (true = true ↔ false = false ∧ ∀ j, j < S.ass.length → (0 : Nat) ≠ 0 → sndS S j = true)
          exact ⟨fun _ => ⟨rfl, fun j _ z => absurd rfl z⟩, fun _ => rfl⟩
/-- the parts of a state that a proof's step leaves as they are -/
theorem iv_proof {S S' : RSt} (h : Iv S) (hs : 10 ≤ S.stage) (h1 : S'.1 = S.1) (h2 : S'.2.1 = S.2.1) (h3 : S'.2.2.1.2 = S.2.2.1.2) (hs1 : 10 ≤ S'.stage) (hs2 : S'.stage ≤ 13) (i7 : I7 S') (i8 : I8 S') : Iv S' := by
  obtain ⟨⟨o1, o2, o3, o4, o5, o6⟩, i1, i2, i3, i4, -, i6, -, -, i9⟩ := h
  have j1 := i6.1 (by omega)
  have j2 := i6.2.2.2.2.2.2.2.2 (by omega)
  have j3 := i6.2.2.2.2.2.1 (by omega)
  have j4 := i6.2.2.2.1 (by omega)
  clear i6
  obtain ⟨K, X, ⟨st, C⟩, R⟩ := S
  obtain ⟨K', X', ⟨st', C'⟩, R'⟩ := S'
  have e1 : K' = K := h1
  have e2 : X' = X := h2
  have e3 : C' = C := h3
  subst e1; subst e2; subst e3
  exact ⟨⟨o1, o2, o3, o4, o5, hs2⟩, i1, i2, i3, i4, lab5 (Or.inr (by omega)), ⟨fun _ => j1, fun w => by omega, fun w => by omega, fun _ => j4, fun w => by omega, fun _ => j3, fun w => by omega, fun w => by omega, fun _ => j2⟩, i7, i8, i9⟩
theorem iv_put {S S' : RSt} {e : List Nat × Int64} (h : Iv S) (hs : 10 ≤ S.stage) (hg : S.gap = false) (he : RowOk S e.1 ∧ MK S e.1 e.2) (h' : putS S e = .ok S') : Iv S' ∧ S'.stage = S.stage ∧ 0 < S'.stk.length ∧ S'.gap = false := by
  unfold putS at h'
  by_cases q : 16 ≤ S.stk.length
  · rw [if_pos q] at h'; cases h'
  · rw [if_neg q] at h'
    injection h' with h'
    have hx := h
    obtain ⟨⟨o1, o2, o3, o4, o5, o6⟩, i1, i2, i3, i4, -, i6, i7, i8, i9⟩ := h
    obtain ⟨k1, k2, k3, k4, k5, k6, k7, k8⟩ := i7 hs
    have hst : S'.stage = S.stage := by rw [← h']
    have hlen : S'.stk.length = S.stk.length + 1 := by rw [← h']; show (S.stk ++ [e]).length = _; rw [List.length_append]; rfl
    refine ⟨iv_proof hx hs (by rw [← h']) (by rw [← h']) (by rw [← h']) (by omega) (by omega) (fun _ => ?_) ?_, hst, by omega, by rw [← h']; exact hg⟩
    · subst h'
      refine ⟨k1, k2, k3, ?_, by omega, fun f hf => ?_, k7, k8⟩
      · show max S.ca.hgt (S.stk.length + 1) ≤ 16
        omega
      · have hf2 : f ∈ S.stk ++ [e] := hf
        rw [List.mem_append, List.mem_singleton] at hf2
        rcases hf2 with hf2 | hf2
        · exact k6 f hf2
        · rw [hf2]; exact he
    · subst h'
      exact i8
theorem mem_repS {S : RSt} {σ : Nat → Nat} {v : Nat} : ∀ (l : List Nat), v ∈ (repS S σ l).1 ↔ ∃ x ∈ l, v ∈ (subS S σ x).1 := by
  intro l
  induction l with
  | nil => simp [repS]
  | cons x l ih =>
    rw [show (repS S σ (x :: l)).1 = (subS S σ x).1 ++ (repS S σ l).1 from rfl, List.mem_append, ih]
    constructor
    · rintro (h | ⟨y, h1, h2⟩)
      · exact ⟨x, by simp, h⟩
      · exact ⟨y, by simp [h1], h2⟩
    · rintro ⟨y, h1, h2⟩
      rcases List.mem_cons.mp h1 with h1 | h1
      · left; rw [← h1]; exact h2
      · exact Or.inr ⟨y, h1, h2⟩
theorem tb_repS {S : RSt} {σ : Nat → Nat} {v : Nat} : ∀ (l : List Nat), tb (repS S σ l).2 v = true ↔ ∃ x ∈ l, tb (subS S σ x).2 v = true := by
  intro l
  induction l with
  | nil => show tb (Int64.ofNat 0) v = true ↔ _; rw [tb_zero]; simp
  | cons x l ih =>
    rw [show (repS S σ (x :: l)).2 = (subS S σ x).2 ||| (repS S σ l).2 from rfl, tb_or, Bool.or_eq_true, ih]
    constructor
    · rintro (h | ⟨y, h1, h2⟩)
      · exact ⟨x, by simp, h⟩
      · exact ⟨y, by simp [h1], h2⟩
    · rintro ⟨y, h1, h2⟩
      rcases List.mem_cons.mp h1 with h1 | h1
      · left; rw [← h1]; exact h2
      · exact Or.inr ⟨y, h1, h2⟩
theorem rep_ok {S : RSt} {σ : Nat → Nat} {l : List Nat} (hst : StOk S S.stk) (hl : RowOk S l) (h24 : (repS S σ l).1.length ≤ 24) : RowOk S (repS S σ l).1 ∧ MK S (repS S σ l).1 (repS S σ l).2 := by
  obtain ⟨l1, l2, l3, l4⟩ := hl
  -- the head is a constant that stays
  cases l with
  | nil => simp at l1
  | cons c l =>
    have hc : rol S c = 0 := l4 c rfl
    have hcs : subS S σ c = ([c], Int64.ofNat 0) := by unfold subS; rw [if_neg (by omega)]
    have hsub : ∀ x ∈ c :: l, ∀ v, (v ∈ (subS S σ x).1 → v < S.nms.length ∧ rol S v ≤ 1) := by
      intro x hx v hv
      unfold subS at hv
      by_cases hr : rol S x = 1
      · rw [if_pos hr] at hv
        have hv1 : v ∈ (stR S (σ x)).tail := hv
        cases he : S.stk[σ x]? with
        | none => unfold stR at hv1; rw [he] at hv1; cases hv1
        | some e =>
          unfold stR at hv1; rw [he] at hv1
          exact (hst e (List.mem_of_getElem? he)).1.2.2.1 v (List.mem_of_mem_tail hv1)
      · rw [if_neg hr] at hv
        have hv1 : v ∈ [x] := hv
        rw [List.mem_singleton] at hv1
        rw [hv1]; exact l3 x hx
    have hbit : ∀ x ∈ c :: l, ∀ v, v < 64 → (tb (subS S σ x).2 v = true ↔ v ∈ (subS S σ x).1 ∧ rol S v = 1) := by
      intro x hx v hv
      unfold subS
      by_cases hr : rol S x = 1
      · rw [if_pos hr]
        show tb (stV S (σ x)) v = true ↔ v ∈ (stR S (σ x)).tail ∧ rol S v = 1
        unfold stV stR
        cases he : S.stk[σ x]? with
        | none => show tb (Int64.ofNat 0) v = true ↔ v ∈ ([] : List Nat).tail ∧ _; rw [tb_zero]; simp
        | some e =>
          show tb e.2 v = true ↔ v ∈ e.1.tail ∧ rol S v = 1
          obtain ⟨⟨e1, e2, e3, e4⟩, e5⟩ := hst e (List.mem_of_getElem? he)
          rw [e5 v hv]
          cases hee : e.1 with
          | nil => rw [hee] at e1; simp at e1
          | cons y t =>
            have hy : rol S y = 0 := e4 y (by rw [hee]; rfl)
            show v ∈ y :: t ∧ rol S v = 1 ↔ v ∈ t ∧ rol S v = 1
            constructor
            · rintro ⟨z1, z2⟩
              rcases List.mem_cons.mp z1 with z1 | z1
              · rw [z1] at z2; omega
              · exact ⟨z1, z2⟩
            · rintro ⟨z1, z2⟩
              exact ⟨List.mem_cons_of_mem _ z1, z2⟩
      · rw [if_neg hr]
        show tb (Int64.ofNat 0) v = true ↔ v ∈ [x] ∧ rol S v = 1
        rw [tb_zero, List.mem_singleton]
        constructor
        · intro z; cases z
        · rintro ⟨z1, z2⟩; rw [z1] at z2; exact absurd z2 hr
    have hhd : (repS S σ (c :: l)).1 = c :: (repS S σ l).1 := by
      rw [show (repS S σ (c :: l)).1 = (subS S σ c).1 ++ (repS S σ l).1 from rfl, hcs]; rfl
    refine ⟨⟨by rw [hhd]; simp, h24, fun v hv => ?_, fun d hd => ?_⟩, fun v hv => ?_⟩
    · obtain ⟨x, x1, x2⟩ := (mem_repS _).mp hv
      exact hsub x x1 v x2
    · rw [hhd] at hd
      injection hd with hd
      rw [← hd]; exact hc
    · rw [tb_repS, mem_repS]
      constructor
      · rintro ⟨x, x1, x2⟩
        obtain ⟨y1, y2⟩ := (hbit x x1 v hv).mp x2
        exact ⟨⟨x, x1, y1⟩, y2⟩
      · rintro ⟨⟨x, x1, x2⟩, x3⟩
        exact ⟨x, x1, (hbit x x1 v hv).mpr ⟨x2, x3⟩⟩
theorem iv_use {S S' : RSt} {k : Nat} {s : RSm} {b : Nat} {σ : Nat → Nat} (h : Iv S) (hs : 10 ≤ S.stage) (hg : S.gap = false) (hk : S.sms[k]? = some s) (hk2 : 2 ≤ s.kind) (h' : useS S k s b σ = .ok S') : Iv S' ∧ S'.stage = S.stage ∧ 0 < S'.stk.length ∧ S'.gap = false := by
  unfold useS at h'
  split at h'
  · by_cases q : 24 < (repS S σ s.row).1.length
    · rw [if_pos q] at h'; cases h'
    · rw [if_neg q] at h'
      have hx := h
      obtain ⟨⟨o1, o2, o3, o4, o5, o6⟩, i1, i2, i3, i4, -, i6, i7, i8, i9⟩ := h
      obtain ⟨k1, k2, k3, k4, k5, k6, k7, k8⟩ := i7 hs
      obtain ⟨z1, z2, z3, z4, z5⟩ := i2 k s hk
      obtain ⟨r1, r2⟩ := rep_ok k6 z2 (show (repS S σ s.row).1.length ≤ 24 by omega)
      refine iv_put (S := (S.uStk (S.stk.take b)).uCa ((S.ca.uUse (am_upd S.ca.use s.asn (S.ca.use s.asn + 1))).uSnd (S.ca.snd && sndS S s.asn))) (iv_proof hx hs rfl rfl rfl hs o6 (fun _ => ⟨k1, k2, k3, k4, ?_, fun e he => k6 e (List.mem_of_mem_take he), k7, ?_⟩) ?_) hs hg ⟨r1, r2⟩ h'
      · show (S.stk.take b).length ≤ 16
        rw [List.length_take]; omega
      · show ((S.ca.snd && sndS S s.asn) = true ↔ S.gap = false ∧ ∀ j, j < S.ass.length → am_upd S.ca.use s.asn (S.ca.use s.asn + 1) j ≠ 0 → sndS S j = true)
        rw [Bool.and_eq_true, k8]
        constructor
        · rintro ⟨⟨y1, y2⟩, y3⟩
          refine ⟨y1, fun j hj hu => ?_⟩
          by_cases hjs : j = s.asn
          · rw [hjs]; exact y3
          · rw [am_updN hjs] at hu; exact y2 j hj hu
        · rintro ⟨y1, y2⟩
          refine ⟨⟨y1, fun j hj hu => y2 j hj ?_⟩, y2 s.asn (z5 hk2).1 (by rw [updN_at]; omega)⟩
          by_cases hjs : j = s.asn
          · subst hjs; rw [updN_at]; omega
          · rw [am_updN hjs]; exact hu
      · intro w
        obtain ⟨l1, l2, l3, l4, l5, l6, l7, l8, l9, l10⟩ := i8 w
        exact ⟨l1, l2, l3, l4, l5, l6, l7, l8, l9, l10⟩
  · cases h'
theorem iv_stepWith {S S' : RSt} {k : Nat} (h : Iv S) (hs : 10 ≤ S.stage) (h' : stepWithS S k = .ok S') : Iv S' ∧ S'.stage = S.stage ∧ (S'.gap = false → 0 < S'.stk.length) := by
  unfold stepWithS at h'
  cases hg : S.gap with
  | true =>
    rw [hg, if_pos rfl] at h'
    injection h' with h'
    subst h'
    exact ⟨h, rfl, fun w => by rw [hg] at w; cases w⟩
  | false =>
    rw [hg, if_neg (by decide)] at h'
    cases hk : S.sms[k]? with
    | none => rw [hk] at h'; cases h'
    | some s =>
      rw [hk] at h'
      obtain ⟨z1, z2, z3, z4, z5⟩ := h.2.2.1 k s hk
      have h2 : (if s.kind ≤ 1 then putS S (s.row, s.vs) else if S.stk.length < (hsOf k s.mand).length then .error (-9) else match bindS S (hsOf k s.mand) (S.stk.length - (hsOf k s.mand).length) (fun _ => 0) with | none => .error (-10) | some σ => useS S k s (S.stk.length - (hsOf k s.mand).length) σ) = Except.ok S' := h'
      by_cases hk1 : s.kind ≤ 1
      · rw [if_pos hk1] at h2
        obtain ⟨y1, y2, y3, y4⟩ := iv_put h hs hg ⟨z2, z3⟩ h2
        exact ⟨y1, y2, fun _ => y3⟩
      · rw [if_neg hk1] at h2
        by_cases hl : S.stk.length < (hsOf k s.mand).length
        · rw [if_pos hl] at h2; cases h2
        · rw [if_neg hl] at h2
          cases hb : bindS S (hsOf k s.mand) (S.stk.length - (hsOf k s.mand).length) (fun _ => 0) with
          | none => rw [hb] at h2; cases h2
          | some σ =>
            rw [hb] at h2
            obtain ⟨y1, y2, y3, y4⟩ := iv_use h hs hg hk (by omega) h2
            exact ⟨y1, y2, fun _ => y3⟩
theorem iv_gap {S : RSt} (h : Iv S) (hs : 10 ≤ S.stage) : Iv (gapS S) := by
  have hx := h
  obtain ⟨⟨o1, o2, o3, o4, o5, o6⟩, i1, i2, i3, i4, -, i6, i7, i8, i9⟩ := h
  obtain ⟨k1, k2, k3, k4, k5, k6, k7, k8⟩ := i7 hs
  refine iv_proof hx hs rfl rfl rfl hs o6 (fun _ => ⟨k1, k2, k3, k4, k5, k6, rfl, ?_⟩) (fun w => ?_)
  · show (false = true ↔ true = false ∧ _)
    simp
  · obtain ⟨l1, l2, l3, l4, l5, l6, l7, l8, l9, l10⟩ := i8 w
    exact ⟨l1, l2, l3, l4, l5, l6, l7, fun z => (by have z2 : true = false := z; cases z2), l9, l10⟩
theorem iv_stage {S : RSt} (h : Iv S) (hs : 10 ≤ S.stage) (t : Nat) (ht : 10 ≤ t) (ht2 : t ≤ 13) (h8 : 12 ≤ t → 12 ≤ S.stage) : Iv (S.uStage t) := by
  have hx := h
  obtain ⟨-, -, -, -, -, -, -, i7, i8, -⟩ := h
  exact iv_proof hx hs rfl rfl rfl ht ht2 (fun _ => i7 hs) (fun w => i8 (h8 w))
theorem usable_lt {S : RSt} (h : Iv S) {c : Int64} {k : Nat} (hu : usableS S c = some k) : k < S.sms.length := by
  unfold usableS at hu
  split at hu
  · cases hu
  · cases hx : S.nms[(fnd S c).toNat]? with
    | none => rw [hx] at hu; cases hu
    | some x =>
      rw [hx] at hu
      have hu2 : (if x.role ≠ 2 then none else if kindS S x.lst ≤ 1 ∧ tb S.hyps x.lst = false then none else some x.lst) = some k := hu
      by_cases hr : x.role = 2
      · rw [if_neg (fun z => z hr)] at hu2
        split at hu2
        · cases hu2
        · injection hu2 with hu2
          rw [← hu2]; exact (h.2.1 _ x hx).2 hr
      · rw [if_pos hr] at hu2; cases hu2
