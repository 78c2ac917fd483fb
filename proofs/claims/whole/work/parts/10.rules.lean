/-! ===== contracts over the tables of numbers ===== -/
def z0 : Nat → Int := fun _ => 0
/-- method mid, called with as, returns r and turns g into g' -/
def C2 (d : Nat) (mid : am_M) (as : List am_V) (g : G2) (r : Option am_V) (g' : G2) : Prop := Cl d mid as (hp g) r (hp g')
def am_rt (mid : am_M) (pc : Nat) (r : Option am_V) : Prop := (r = none ∧ am_ret mid = none ∧ decode (am_bytes mid) pc = .ok (.return_, 1)) ∨ (∃ x, r = some (vI x) ∧ am_ret mid = some .int ∧ decode (am_bytes mid) pc = .ok (.ireturn, 1)) ∨ (∃ x, r = some (vI x) ∧ (x = 0 ∨ x = 1) ∧ am_ret mid = some .boolean ∧ decode (am_bytes mid) pc = .ok (.ireturn, 1)) ∨ (∃ x, r = some (vL x) ∧ am_ret mid = some .long ∧ decode (am_bytes mid) pc = .ok (.lreturn, 1))
/-- from here the method returns r, and leaves g' -/
def Rt (d : Nat) (mid : am_M) (pc : Nat) (lv : am_L) (st : List am_V) (g : G2) (r : Option am_V) (g' : G2) : Prop := lv.length = am_maxL mid → ∃ pc' lv', am_rt mid pc' r ∧ Go d 89 20964 0 z0 mid pc lv st (hp g) pc' lv' r.toList (hp g')
section RT
variable {d : Nat} {mid mid' : am_M} {cd : Nat → Option am_I} {pc pc' nx u v : Nat} {lv lv' : am_L} {st st' : List am_V} {g g1 g' : G2} {r res : Option am_V} {P : Prop}
theorem Rt.path (hcd : am_CD mid cd) (n : Nat) (ch : List Nat) (hp : am_path cd O2 89 20964 0 z0 mid n ch pc lv st g = some (pc', lv', st', g1, P)) (hP : P) (k : Rt d mid pc' lv' st' g1 r g') : Rt d mid pc lv st g r g' := by
  intro hl
  obtain ⟨g2, l2⟩ := am_path_ok (d := d) hcd O2_law n ch pc lv st g pc' lv' st' g1 P hl hp hP
  obtain ⟨pc2, lv2, h1, h2⟩ := k l2
  exact ⟨pc2, lv2, h1, g2.trans h2⟩
theorem am_dec1 (hcd : am_CD mid cd) {ins : Instr} (hc : cd pc = some (ins, nx, u, v)) (hn : am_len ins ≠ 0) : decode (am_bytes mid) pc = .ok (ins, am_len ins) ∧ nx = pc + am_len ins := by
  obtain ⟨h1, h2, -⟩ := hcd _ _ _ _ _ hc
  rcases h2 with h2 | h2
  · exact absurd h2 hn
  · rw [h2, Nat.add_sub_cancel_left] at h1
    exact ⟨h1, h2⟩
theorem Rt.retI (hcd : am_CD mid cd) {x : Int} (hc : cd pc = some (.ireturn, nx, u, v)) (hr : am_ret mid = some .int) : Rt d mid pc lv [vI x] g (some (vI x)) g := fun _ => ⟨pc, lv, Or.inr (Or.inl ⟨x, rfl, hr, (am_dec1 hcd hc (Nat.succ_ne_zero _)).1⟩), Go.rfl'⟩
theorem Rt.retZ (hcd : am_CD mid cd) {x : Int} (hx : x = 0 ∨ x = 1) (hc : cd pc = some (.ireturn, nx, u, v)) (hr : am_ret mid = some .boolean) : Rt d mid pc lv [vI x] g (some (vI x)) g := fun _ => ⟨pc, lv, Or.inr (Or.inr (Or.inl ⟨x, rfl, hx, hr, (am_dec1 hcd hc (Nat.succ_ne_zero _)).1⟩)), Go.rfl'⟩
theorem Rt.retL (hcd : am_CD mid cd) {x : Int64} (hc : cd pc = some (.lreturn, nx, u, v)) (hr : am_ret mid = some .long) : Rt d mid pc lv [vL x] g (some (vL x)) g := fun _ => ⟨pc, lv, Or.inr (Or.inr (Or.inr ⟨x, rfl, hr, (am_dec1 hcd hc (Nat.succ_ne_zero _)).1⟩)), Go.rfl'⟩
theorem Rt.retV (hcd : am_CD mid cd) (hc : cd pc = some (.return_, nx, u, v)) (hr : am_ret mid = none) : Rt d mid pc lv [] g none g := fun _ => ⟨pc, lv, Or.inl ⟨rfl, hr, (am_dec1 hcd hc (Nat.succ_ne_zero _)).1⟩, Go.rfl'⟩
theorem Rt.callV (hcd : am_CD mid cd) {idx : Nat} (hc : cd pc = some (.invokevirtual idx, nx, u, v)) (hk : Jvm.Cond.methodLink (am_own mid) idx (am_y mid') ∈ am_TS) (as : List am_V) (cf : am_cfV mid' as.length) {k ci nF : Nat} {T : u_T} (ho : o2_cls g k = some ci) (hcl : am_cl[ci]? = some ((am_y mid').cls, T, nF)) (C : C2 d mid' (vR (k + 1) :: as) g res g1) (hst : am_sum st ≤ 8) (kk : Rt (d + 1) mid nx lv (res.toList ++ st) g1 r g') : Rt (d + 1) mid pc lv (as.reverse ++ vR (k + 1) :: st) g r g' := by
  intro hl
  obtain ⟨h1, h2⟩ := am_dec1 hcd hc (Nat.succ_ne_zero _)
  obtain ⟨fs, hf⟩ := O2_law.2.2.2.2.2.2 g k ci ho
  obtain ⟨pc2, lv2, h3, h4⟩ := kk hl
  refine ⟨pc2, lv2, h3, (Go.callV h1 hk cf hcl hf C hst hl (by rw [hp_len]; exact Nat.le_refl _) (by rw [hp_sl]; exact Nat.le_refl _)).trans ?_⟩
  have h2 : nx = pc + 3 := h2
  rw [← h2]; exact h4
theorem Rt.callS (hcd : am_CD mid cd) {idx : Nat} (hc : cd pc = some (.invokestatic idx, nx, u, v)) (hk : Jvm.Cond.methodLink (am_own mid) idx (am_y mid') ∈ am_TS) (as : List am_V) (cf : am_cfS mid' as.length) (C : C2 d mid' as g res g1) (hst : am_sum st ≤ 8) (kk : Rt (d + 1) mid nx lv (res.toList ++ st) g1 r g') : Rt (d + 1) mid pc lv (as.reverse ++ st) g r g' := by
  intro hl
  obtain ⟨h1, h2⟩ := am_dec1 hcd hc (Nat.succ_ne_zero _)
  obtain ⟨pc2, lv2, h3, h4⟩ := kk hl
  refine ⟨pc2, lv2, h3, (Go.callS h1 hk cf C hst hl (by rw [hp_len]; exact Nat.le_refl _) (by rw [hp_sl]; exact Nat.le_refl _)).trans ?_⟩
  have h2 : nx = pc + 3 := h2
  rw [← h2]; exact h4
theorem C2.of {as : List am_V} (hy : plainName (am_y mid).cls = true) (hi : am_init mid = false) (h0 : am_law mid = false) (hn : (am_ea as).length ≤ am_maxL mid) (k : Rt d mid 0 (am_ent (am_maxL mid) as) [] g r g') : C2 d mid as g r g' := by
  have hlen : (am_ent (am_maxL mid) as).length = am_maxL mid := by simp [am_ent]; omega
  obtain ⟨pc2, lv2, h1, h2⟩ := k hlen
  refine Cl.body (lv' := lv2) hy (fun q => by rw [hi] at q; cases q) h0 hn (by rw [hp_len, hp_len]; exact Nat.le_refl _) (by rw [hp_sl, hp_sl]; exact Nat.le_refl _) ?_ h1
  rw [hp_len, hp_sl]
  exact h2
end RT
