theorem rr_0 : RR g_0 := by
  refine ⟨0, 0, 0, 0, ⟨by decide, rfl, rfl, fun i hi => (Nat.not_lt_zero _ hi).elim⟩, ⟨⟨rfl, by decide⟩, ⟨⟨by decide, by decide, by decide⟩, ⟨rfl, rfl⟩, ⟨rfl, rfl⟩, rfl, rfl⟩, ⟨fun i hi => (Nat.not_lt_zero _ hi).elim, fun i j hi => (Nat.not_lt_zero _ hi).elim⟩, ⟨rfl, fun i hi => ?_⟩, fun k hk => (Nat.not_lt_zero _ hk).elim, fun k hk => (Nat.not_lt_zero _ hk).elim, ⟨fun k hk => (Nat.not_lt_zero _ hk).elim, fun k hk => (Nat.not_lt_zero _ hk).elim, rfl⟩, fun k hk => (Nat.not_lt_zero _ hk).elim, fun k hk => (Nat.not_lt_zero _ hk).elim⟩, rfl⟩
  rw [decide_eq_false (Nat.not_lt_zero i), Bool.false_and]
  exact tb_zero i
/-- all that is left of the law: read keeps the relation and answers alike -/
def ReadLaw : Prop := PI RR f_L_read_1 f_M_read_50
theorem law_of_read (h : ReadLaw) : PureLaw := law_read rr_0 h
