/-! ===== bounds of the counts of a proof ===== -/
def UB (S : RSt) (n : Nat) : Prop := S.ca.stp ≤ n ∧ ∀ j, S.ca.use j ≤ n
theorem UB.mono {S : RSt} {n m : Nat} (h : UB S n) (hm : n ≤ m) : UB S m := ⟨Nat.le_trans h.1 hm, fun j => Nat.le_trans (h.2 j) hm⟩
theorem ub_put {S S' : RSt} {e : List Nat × Int64} {n : Nat} (h : putS S e = .ok S') (hs : S.ca.stp ≤ n) (hu : ∀ j, S.ca.use j ≤ n + 1) : UB S' (n + 1) := by
  unfold putS at h
  by_cases q : 16 ≤ S.stk.length
  · rw [if_pos q] at h; cases h
  · rw [if_neg q] at h; injection h with h; subst h
    exact ⟨by show S.ca.stp + 1 ≤ n + 1; omega, hu⟩
theorem ub_step {S S' : RSt} {k n : Nat} (h : stepWithS S k = .ok S') (hu : UB S n) : UB S' (n + 1) := by
  unfold stepWithS at h
  by_cases hg : S.gap = true
  · rw [if_pos hg] at h; injection h with h; subst h; exact hu.mono (by omega)
  · rw [if_neg hg] at h
    cases hk : S.sms[k]? with
    | none => rw [hk] at h; cases h
    | some s =>
      rw [hk] at h
      have h : (if s.kind ≤ 1 then putS S (s.row, s.vs) else if S.stk.length < (hsOf k s.mand).length then .error (-9) else match bindS S (hsOf k s.mand) (S.stk.length - (hsOf k s.mand).length) (fun _ => 0) with | none => .error (-10) | some σ => useS S k s (S.stk.length - (hsOf k s.mand).length) σ) = Except.ok S' := h
      by_cases q1 : s.kind ≤ 1
      · rw [if_pos q1] at h; exact ub_put h hu.1 (fun j => Nat.le_trans (hu.2 j) (by omega))
      · rw [if_neg q1] at h
        by_cases q2 : S.stk.length < (hsOf k s.mand).length
        · rw [if_pos q2] at h; cases h
        · rw [if_neg q2] at h
          cases hb : bindS S (hsOf k s.mand) (S.stk.length - (hsOf k s.mand).length) (fun _ => 0) with
          | none => rw [hb] at h; cases h
          | some σ =>
            rw [hb] at h
            have h : useS S k s (S.stk.length - (hsOf k s.mand).length) σ = Except.ok S' := h
            unfold useS at h
            by_cases q3 : keepsS S σ (prsS S s.asn)
            · rw [if_pos q3] at h
              by_cases q4 : 24 < (repS S σ s.row).1.length
              · rw [if_pos q4] at h; cases h
              · rw [if_neg q4] at h
                refine ub_put h hu.1 (fun j => ?_)
                show am_upd S.ca.use s.asn (S.ca.use s.asn + 1) j ≤ n + 1
                by_cases qj : j = s.asn
                · subst qj; rw [updN_at]; have := hu.2 s.asn; omega
                · rw [am_updN qj]; have := hu.2 j; omega
            · rw [if_neg q3] at h; cases h
theorem ub_take {S S' : RSt} {c : Int64} {n : Nat} (h : takeStepS S c = .ok S') (hu : UB S n) : UB S' (n + 1) := by
  unfold takeStepS at h
  by_cases q : c = Int64.ofNat 63
  · rw [if_pos q] at h; injection h with h; subst h; exact (show UB (gapS S) n from hu).mono (by omega)
  · rw [if_neg q] at h
    cases hk : usableS S c with
    | none => rw [hk] at h; cases h
    | some k => rw [hk] at h; exact ub_step h hu
theorem ub_num {S S' : RSt} {n : Nat} (h : stepNumS S = .ok S') (hu : UB S n) : UB S' (n + 1) := by
  unfold stepNumS at h
  cases hk : S.refs[S.num - 1]? with
  | some k => rw [hk] at h; exact ub_step h hu
  | none =>
    rw [hk] at h
    have h : (if S.tc ≤ S.num - S.refs.length - 1 then .error (-8) else if S.gap = true then .ok S else match S.tags[S.num - S.refs.length - 1]? with | some e => putS S e | none => .error (-8)) = Except.ok S' := h
    by_cases q1 : S.tc ≤ S.num - S.refs.length - 1
    · rw [if_pos q1] at h; cases h
    · rw [if_neg q1] at h
      by_cases q2 : S.gap = true
      · rw [if_pos q2] at h; injection h with h; subst h; exact hu.mono (by omega)
      · rw [if_neg q2] at h
        cases ht : S.tags[S.num - S.refs.length - 1]? with
        | none => rw [ht] at h; cases h
        | some e => rw [ht] at h; exact ub_put h hu.1 (fun j => Nat.le_trans (hu.2 j) (by omega))
theorem ca_letter {S S' : RSt} {c : Int} (h : takeLetterS S c = .ok S') : S'.ca.stp = S.ca.stp ∧ S'.ca.use = S.ca.use := by
  unfold takeLetterS at h
  by_cases q1 : c = 63
  · rw [if_pos q1] at h
    by_cases q2 : S.ins = true
    · rw [if_pos q2] at h; cases h
    · rw [if_neg q2] at h; injection h with h; subst h; exact ⟨rfl, rfl⟩
  · rw [if_neg q1] at h
    by_cases q2 : c = 90
    · rw [if_pos q2] at h
      by_cases q3 : S.beh = false
      · rw [if_pos q3] at h; cases h
      · rw [if_neg q3] at h
        by_cases q4 : 16 ≤ S.tc
        · rw [if_pos q4] at h; cases h
        · rw [if_neg q4] at h; injection h with h; subst h; exact ⟨rfl, rfl⟩
    · rw [if_neg q2] at h
      by_cases q3 : 9999 < numS S c
      · rw [if_pos q3] at h; cases h
      · rw [if_neg q3] at h; injection h with h; subst h; exact ⟨rfl, rfl⟩
theorem ub_letter {S S' : RSt} {c : Int} {n : Nat} (h : letterS S c = .ok S') (hu : UB S n) : UB S' (n + 1) := by
  unfold letterS at h
  cases ht : takeLetterS S c with
  | error f => rw [ht] at h; cases h
  | ok S1 =>
    rw [ht] at h
    have h : (if S1.beh = true then stepNumS S1 else .ok S1) = Except.ok S' := h
    obtain ⟨c1, c2⟩ := ca_letter ht
    have hu1 : UB S1 n := ⟨by rw [c1]; exact hu.1, fun j => by rw [c2]; exact hu.2 j⟩
    by_cases q : S1.beh = true
    · rw [if_pos q] at h; exact ub_num h hu1
    · rw [if_neg q] at h; injection h with h; subst h; exact hu1.mono (by omega)
theorem ub_letters : ∀ (l : List Int) (S S' : RSt) (n : Nat), lettersS S l = .ok S' → UB S n → UB S' (n + l.length) := by
  intro l
  induction l with
  | nil => intro S S' n h hu; injection h with h; subst h; exact hu
  | cons c l ih =>
    intro S S' n h hu
    have h : (match letterS S c with | .error f => .error f | .ok S1 => lettersS S1 l) = Except.ok S' := h
    cases ht : letterS S c with
    | error f => rw [ht] at h; cases h
    | ok S1 =>
      rw [ht] at h
      have := ih S1 S' (n + 1) h (ub_letter ht hu)
      rw [List.length_cons]
      exact this.mono (by omega)
