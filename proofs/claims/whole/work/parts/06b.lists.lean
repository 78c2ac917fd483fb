/-! ===== what the printed lists must keep ===== -/
def am_flok (own : String) (l : List (Nat × Nat × Nat)) : Prop := ∀ e ∈ l, ∃ C T nF, am_cl[e.2.1]? = some (C, T, nF) ∧ e.2.2 < nF ∧ am_fw own e.1 C T e.2.2
def am_fl1 (own : String) (e : Nat × Nat × Nat) (p : Nat) : Bool := match am_cl[e.2.1]? with
  | some (C, T, nF) => decide (e.2.2 < nF) && (decide ((T e.2.2).1 = C) && decide (lw_tbl[p]? = some (Jvm.Cond.fieldLink own e.1 C (T e.2.2).2.1 (T e.2.2).2.2.1)))
  | none => false
def am_flb (own : String) : List (Nat × Nat × Nat) → List Nat → Bool
  | [], _ => true
  | e :: l, p :: ps => am_fl1 own e p && am_flb own l ps
  | _ :: _, [] => false
theorem am_flok_of {own : String} (l : List (Nat × Nat × Nat)) : ∀ (ps : List Nat), am_flb own l ps = true → am_flok own l := by
  induction l with
  | nil => intro ps _ e he; cases he
  | cons a l ih =>
    intro ps h
    cases ps with
    | nil => cases h
    | cons p ps =>
      have h : (am_fl1 own a p && am_flb own l ps) = true := h
      rw [Bool.and_eq_true] at h
      intro e he
      rcases List.mem_cons.mp he with rfl | he
      · have h1 := h.1
        unfold am_fl1 at h1
        split at h1
        · next C T nF hc =>
          simp only [Bool.and_eq_true, decide_eq_true_eq] at h1
          exact ⟨C, T, nF, hc, h1.1, h1.2.1, am_one p h1.2.2 rfl⟩
        · cases h1
      · exact ih ps h.2 e he
def am_cnok (own : String) (l : List (Nat × Nat)) : Prop := ∀ e ∈ l, ∃ C T nF, am_cl[e.2]? = some (C, T, nF) ∧ Jvm.Cond.classLink own e.1 C ∈ am_TS
def am_cn1 (own : String) (e : Nat × Nat) (p : Nat) : Bool := match am_cl[e.2]? with
  | some (C, _, _) => decide (lw_tbl[p]? = some (Jvm.Cond.classLink own e.1 C))
  | none => false
def am_cnb (own : String) : List (Nat × Nat) → List Nat → Bool
  | [], _ => true
  | e :: l, p :: ps => am_cn1 own e p && am_cnb own l ps
  | _ :: _, [] => false
theorem am_cnok_of {own : String} (l : List (Nat × Nat)) : ∀ (ps : List Nat), am_cnb own l ps = true → am_cnok own l := by
  induction l with
  | nil => intro ps _ e he; cases he
  | cons a l ih =>
    intro ps h
    cases ps with
    | nil => cases h
    | cons p ps =>
      have h : (am_cn1 own a p && am_cnb own l ps) = true := h
      rw [Bool.and_eq_true] at h
      intro e he
      rcases List.mem_cons.mp he with rfl | he
      · have h1 := h.1
        unfold am_cn1 at h1
        split at h1
        · next C T nF hc => exact ⟨C, T, nF, hc, am_one p (of_decide_eq_true h1) rfl⟩
        · cases h1
      · exact ih ps h.2 e he
def am_klok (own : String) (l : List (Nat × Nat)) : Prop := ∀ e ∈ l, Jvm.Cond.constantLong own e.1 (Int64.ofNat e.2) ∈ am_TS
def am_klb (own : String) : List (Nat × Nat) → List Nat → Bool
  | [], _ => true
  | e :: l, p :: ps => decide (lw_tbl[p]? = some (Jvm.Cond.constantLong own e.1 (Int64.ofNat e.2))) && am_klb own l ps
  | _ :: _, [] => false
theorem am_klok_of {own : String} (l : List (Nat × Nat)) : ∀ (ps : List Nat), am_klb own l ps = true → am_klok own l := by
  induction l with
  | nil => intro ps _ e he; cases he
  | cons a l ih =>
    intro ps h
    cases ps with
    | nil => cases h
    | cons p ps =>
      have h : (decide (lw_tbl[p]? = some (Jvm.Cond.constantLong own a.1 (Int64.ofNat a.2))) && am_klb own l ps) = true := h
      rw [Bool.and_eq_true] at h
      intro e he
      rcases List.mem_cons.mp he with rfl | he
      · exact am_one p (of_decide_eq_true h.1) rfl
      · exact ih ps h.2 e he
def am_pn (k : Nat) : MethodName := match k with
  | 0 => objectInit
  | 1 => arraycopyName
  | _ => Lib.Math.max.name
def am_plok (own : String) (l : List (Nat × Nat)) : Prop := ∀ e ∈ l, Jvm.Cond.methodLink own e.1 (am_pn e.2) ∈ am_TS
def am_plb (own : String) : List (Nat × Nat) → List Nat → Bool
  | [], _ => true
  | e :: l, p :: ps => decide (lw_tbl[p]? = some (Jvm.Cond.methodLink own e.1 (am_pn e.2))) && am_plb own l ps
  | _ :: _, [] => false
theorem am_plok_of {own : String} (l : List (Nat × Nat)) : ∀ (ps : List Nat), am_plb own l ps = true → am_plok own l := by
  induction l with
  | nil => intro ps _ e he; cases he
  | cons a l ih =>
    intro ps h
    cases ps with
    | nil => cases h
    | cons p ps =>
      have h : (decide (lw_tbl[p]? = some (Jvm.Cond.methodLink own a.1 (am_pn a.2))) && am_plb own l ps) = true := h
      rw [Bool.and_eq_true] at h
      intro e he
      rcases List.mem_cons.mp he with rfl | he
      · exact am_one p (of_decide_eq_true h.1) rfl
      · exact ih ps h.2 e he
def am_lkb (mid : am_M) (fl : List (Nat × Nat × Nat)) (cn kl pl : List (Nat × Nat)) (pc : Nat) (ins : Instr) (u v : Nat) : Bool := match ins with
  | .bipush n => decide (-128 ≤ n) && decide (n ≤ 127)
  | .sipush n => decide (-32768 ≤ n) && decide (n ≤ 32767)
  | .ldc2_w i => decide ((i, u) ∈ kl)
  | .goto off => decide ((pc : Int) + off = (u : Int))
  | .ifCond _ off => decide ((pc : Int) + off = (u : Int))
  | .if_icmp _ off => decide ((pc : Int) + off = (u : Int))
  | .lookupswitch _ ps => (ps.toList.zip (ps.toList.drop 1)).all (fun (a, next) => a.1 < next.1)
  | .getfield idx => decide ((idx, u, v) ∈ fl)
  | .putfield idx => decide ((idx, u, v) ∈ fl) && (match am_cl[u]? with
    | some (C, T, _) => !(T v).2.2.2 || (am_init mid && decide (C = am_own mid))
    | none => false)
  | .new idx => decide ((idx, u) ∈ cn)
  | .invokespecial idx => !(Nat.beq v 1) || decide ((idx, 0) ∈ pl)
  | .invokestatic idx => Nat.beq v 0 || decide ((idx, v) ∈ pl)
  | _ => true
theorem am_lk_of {mid : am_M} {fl : List (Nat × Nat × Nat)} {cn kl pl : List (Nat × Nat)} (h1 : am_flok (am_own mid) fl) (h2 : am_cnok (am_own mid) cn) (h3 : am_klok (am_own mid) kl) (h4 : am_plok (am_own mid) pl) {pc nx : Nat} {ins : Instr} {u v : Nat} (h : am_lkb mid fl cn kl pl pc ins u v = true) : am_lk mid pc nx ins u v := by
  cases ins with
  | bipush n => have h : (decide (-128 ≤ n) && decide (n ≤ 127)) = true := h; simp only [Bool.and_eq_true, decide_eq_true_eq] at h; exact h
  | sipush n => have h : (decide (-32768 ≤ n) && decide (n ≤ 32767)) = true := h; simp only [Bool.and_eq_true, decide_eq_true_eq] at h; exact h
  | ldc2_w i => exact h3 _ (of_decide_eq_true h)
  | goto off => exact (of_decide_eq_true h : (pc : Int) + off = (u : Int))
  | ifCond c off => exact (of_decide_eq_true h : (pc : Int) + off = (u : Int))
  | if_icmp c off => exact (of_decide_eq_true h : (pc : Int) + off = (u : Int))
  | lookupswitch d ps => exact h
  | getfield idx => exact h1 _ (of_decide_eq_true h)
  | putfield idx =>
    have h : (decide ((idx, u, v) ∈ fl) && (match am_cl[u]? with
      | some (C, T, _) => !(T v).2.2.2 || (am_init mid && decide (C = am_own mid))
      | none => false)) = true := h
    rw [Bool.and_eq_true] at h
    obtain ⟨C, T, nF, k1, k2, k3⟩ := h1 _ (of_decide_eq_true h.1)
    have h5 := h.2
    have k1 : am_cl[u]? = some (C, T, nF) := k1
    rw [k1] at h5
    refine ⟨C, T, nF, k1, k2, k3, fun q => ?_⟩
    have h5 : (!(T v).2.2.2 || (am_init mid && decide (C = am_own mid))) = true := h5
    rw [q] at h5
    simpa using h5
  | new idx => exact h2 _ (of_decide_eq_true h)
  | invokespecial idx =>
    intro q
    subst q
    have h : (!(Nat.beq 1 1) || decide ((idx, 0) ∈ pl)) = true := h
    exact h4 (idx, 0) (of_decide_eq_true h)
  | invokestatic idx =>
    refine ⟨fun q => ?_, fun q => ?_⟩
    · subst q
      have h : (Nat.beq 1 0 || decide ((idx, 1) ∈ pl)) = true := h
      exact h4 (idx, 1) (of_decide_eq_true h)
    · subst q
      have h : (Nat.beq 2 0 || decide ((idx, 2) ∈ pl)) = true := h
      exact h4 (idx, 2) (of_decide_eq_true h)
  | _ => exact trivial
def am_cd1 (mid : am_M) (fl : List (Nat × Nat × Nat)) (cn kl pl : List (Nat × Nat)) (pc : Nat) (q : Option am_I) : Bool := match q with
  | none => true
  | some (ins, nx, u, v) => decide (decode (am_bytes mid) pc = .ok (ins, nx - pc)) && ((Nat.beq (am_len ins) 0 || Nat.beq nx (pc + am_len ins)) && am_lkb mid fl cn kl pl pc ins u v)
theorem am_CD_of {mid : am_M} {fl : List (Nat × Nat × Nat)} {cn kl pl : List (Nat × Nat)} {cd : Nat → Option am_I} (n : Nat) (h1 : am_flok (am_own mid) fl) (h2 : am_cnok (am_own mid) cn) (h3 : am_klok (am_own mid) kl) (h4 : am_plok (am_own mid) pl) (hge : ∀ pc, n ≤ pc → cd pc = none) (h : (List.range n).all (fun pc => am_cd1 mid fl cn kl pl pc (cd pc)) = true) : am_CD mid cd := by
  intro pc ins nx u v hc
  have hlt : pc < n := by
    by_cases hlt : pc < n
    · exact hlt
    · rw [hge pc (by omega)] at hc; cases hc
  have h5 := List.all_eq_true.mp h pc (List.mem_range.mpr hlt)
  rw [hc] at h5
  have h5 : (decide (decode (am_bytes mid) pc = .ok (ins, nx - pc)) && ((Nat.beq (am_len ins) 0 || Nat.beq nx (pc + am_len ins)) && am_lkb mid fl cn kl pl pc ins u v)) = true := h5
  rw [Bool.and_eq_true, Bool.and_eq_true, Bool.or_eq_true] at h5
  refine ⟨of_decide_eq_true h5.1, ?_, am_lk_of h1 h2 h3 h4 h5.2.2⟩
  rcases h5.2.1 with q | q
  · exact Or.inl (Nat.eq_of_beq_eq_true q)
  · exact Or.inr (Nat.eq_of_beq_eq_true q)
