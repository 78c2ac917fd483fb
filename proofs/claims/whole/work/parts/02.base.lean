/-! The machine in our own words: ints as integers, longs as they are, references as numbers (0: the script, r + 1: our own cell r) -/
abbrev am_V : Type := Int ⊕ (Int64 ⊕ Option Nat)
abbrev am_F : Type := (Nat → Int) ⊕ (Nat → Int64)
abbrev am_A : Type := FieldType × (Nat × am_F)
abbrev am_E : Type := am_A ⊕ (Nat × List am_V)
abbrev am_H : Type := List am_E
abbrev am_L : Type := List (Option am_V)
abbrev vI (z : Int) : am_V := Sum.inl z
abbrev vL (x : Int64) : am_V := Sum.inr (Sum.inl x)
abbrev vR (r : Nat) : am_V := Sum.inr (Sum.inr (some r))
abbrev vN : am_V := Sum.inr (Sum.inr none)
/-- a method: its name, its code, how many locals, what it returns, whether it is a constructor, whether it is the law -/
abbrev am_M : Type := MethodName × ByteArray × Nat × Option FieldType × Bool × Bool
def am_y (m : am_M) : MethodName := m.1
def am_own (m : am_M) : String := m.1.cls
def am_bytes (m : am_M) : ByteArray := m.2.1
def am_maxL (m : am_M) : Nat := m.2.2.1
def am_ret (m : am_M) : Option FieldType := m.2.2.2.1
def am_init (m : am_M) : Bool := m.2.2.2.2.1
def am_law (m : am_M) : Bool := m.2.2.2.2.2
def am_lw : Nat := 42
theorem am_lw20 : 20 ≤ am_lw := by decide
theorem am_lw40 : 40 ≤ am_lw := by decide
/-- an instruction, where the next one stands, and two numbers of its own -/
abbrev am_I : Type := Instr × Nat × Nat × Nat
def am_cat : am_V → Nat
  | .inr (.inl _) => 2
  | _ => 1
def am_c (b z : Nat) : am_V → Value
  | .inl n => .int (Int32.ofInt n)
  | .inr (.inl x) => .long x
  | .inr (.inr none) => .null
  | .inr (.inr (some 0)) => .ref b
  | .inr (.inr (some (r + 1))) => .ref (z + r)
theorem am_c_cat (b z : Nat) (v : am_V) : (am_c b z v).category = am_cat v := match v with
  | .inl _ => rfl
  | .inr (.inl _) => rfl
  | .inr (.inr none) => rfl
  | .inr (.inr (some 0)) => rfl
  | .inr (.inr (some (_ + 1))) => rfl
def am_sz : am_E → Nat
  | .inl a => a.2.1
  | .inr o => o.2.length
def am_sl : am_H → Nat
  | [] => 0
  | e :: t => am_sz e + am_sl t
theorem am_sl_app (h : am_H) (e : am_E) : am_sl (h ++ [e]) = am_sl h + am_sz e := by
  induction h with
  | nil => simp [am_sl]
  | cons a t ih => simp [am_sl, ih]; omega
theorem am_sl_set (h : am_H) (k : Nat) (e e0 : am_E) (h0 : h[k]? = some e0) (hs : am_sz e = am_sz e0) : am_sl (h.set k e) = am_sl h := by
  induction h generalizing k with
  | nil => simp at h0
  | cons a t ih =>
    cases k with
    | zero => simp at h0; subst h0; simp [am_sl, hs]
    | succ k => simp at h0; simp [am_sl, ih k h0]
theorem am_sl_set3 (h : am_H) (k : Nat) (e e0 : am_E) (h0 : h[k]? = some e0) (hs : am_sz e = am_sz e0) {a c : Nat} (hp : am_sl h = a ∧ am_sl h ≤ c) : am_sl (h.set k e) = a ∧ am_sl (h.set k e) ≤ c := by
  rw [am_sl_set h k e e0 h0 hs]; exact hp
def am_ce (b z : Nat) (tA : FieldType → ClassId) : am_E → va_E
  | .inl (ty, n, .inl f) => .inl (tA ty, n, .inl (fun j => Int32.ofInt (f j)))
  | .inl (ty, n, .inr f) => .inl (tA ty, n, .inr (.inl f))
  | .inr (ci, fs) => .inr (ci, fs.map (am_c b z))
def am_cw (b z : Nat) (tA : FieldType → ClassId) : Nat → am_H → va_W
  | _, [] => []
  | i, e :: t => (z + i, am_ce b z tA e) :: am_cw b z tA (i + 1) t
theorem am_cw_get (b z : Nat) (tA : FieldType → ClassId) (h : am_H) : ∀ (i k : Nat), (am_cw b z tA i h)[k]? = (h[k]?).map (fun e => (z + (i + k), am_ce b z tA e)) := by
  induction h with
  | nil => intro i k; simp [am_cw]
  | cons a t ih =>
    intro i k
    cases k with
    | zero => simp [am_cw]
    | succ k =>
      simp only [am_cw, List.getElem?_cons_succ, ih (i + 1) k]
      have e : i + 1 + k = i + (k + 1) := by omega
      rw [e]
theorem am_cw_at {b z : Nat} {tA : FieldType → ClassId} {h : am_H} {k : Nat} {e : am_E} (hk : h[k]? = some e) : (am_cw b z tA 0 h)[k]? = some (z + k, am_ce b z tA e) := by
  rw [am_cw_get, hk]; simp
theorem am_cw_set (b z : Nat) (tA : FieldType → ClassId) (e : am_E) (h : am_H) : ∀ (i k : Nat), (am_cw b z tA i h).set k (z + (i + k), am_ce b z tA e) = am_cw b z tA i (h.set k e) := by
  induction h with
  | nil => intro i k; simp [am_cw]
  | cons a t ih =>
    intro i k
    cases k with
    | zero => simp [am_cw]
    | succ k =>
      simp only [am_cw, List.set_cons_succ]
      have e1 : i + (k + 1) = i + 1 + k := by omega
      rw [e1, ih (i + 1) k]
theorem am_cw_set0 (b z : Nat) (tA : FieldType → ClassId) (e : am_E) (h : am_H) (k : Nat) : (am_cw b z tA 0 h).set k (z + k, am_ce b z tA e) = am_cw b z tA 0 (h.set k e) := by
  have := am_cw_set b z tA e h 0 k
  rwa [Nat.zero_add] at this
theorem am_cw_app (b z : Nat) (tA : FieldType → ClassId) (e : am_E) (h : am_H) : ∀ (i : Nat), am_cw b z tA i (h ++ [e]) = am_cw b z tA i h ++ [(z + (i + h.length), am_ce b z tA e)] := by
  induction h with
  | nil => intro i; simp [am_cw]
  | cons a t ih =>
    intro i
    simp only [List.cons_append, am_cw, ih (i + 1), List.length_cons]
    have e1 : i + 1 + t.length = i + (t.length + 1) := by omega
    rw [e1]
theorem am_cw_len (b z : Nat) (tA : FieldType → ClassId) (h : am_H) : ∀ (i : Nat), (am_cw b z tA i h).length = h.length := by
  induction h with
  | nil => intro i; rfl
  | cons a t ih => intro i; simp [am_cw, ih (i + 1)]
theorem am_cw_D (b z : Nat) (tA : FieldType → ClassId) (h : am_H) : va_D (fun q => z ≤ q) (am_cw b z tA 0 h) := by
  refine ⟨fun i j p q hi hj hpq => ?_, fun k q hk => ?_⟩
  · rw [am_cw_get] at hi hj
    cases h1 : h[i]? with
    | none => rw [h1] at hi; cases hi
    | some x =>
      cases h2 : h[j]? with
      | none => rw [h2] at hj; cases hj
      | some y =>
        rw [h1] at hi; rw [h2] at hj
        cases hi; cases hj
        simp at hpq
        exact hpq
  · rw [am_cw_get] at hk
    cases h1 : h[k]? with
    | none => rw [h1] at hk; cases hk
    | some x => rw [h1] at hk; cases hk; simp
/-! locals -/
def am_lv (b z : Nat) (ls : Array Slot) (lv : am_L) : Prop := lv_wf ls ∧ ls.size = lv.length ∧ ∀ (i : Nat) (v : am_V), lv[i]? = some (some v) → ls[i]? = some (.val (am_c b z v))
def am_lp (b z : Nat) (lv : am_L) : List (Nat × Value) := (List.range lv.length).filterMap (fun i => (lv[i]?.join).map (fun v => (i, am_c b z v)))
theorem am_lp_mem {b z : Nat} {lv : am_L} {q : Nat × Value} : q ∈ am_lp b z lv ↔ ∃ v, lv[q.1]? = some (some v) ∧ q.2 = am_c b z v := by
  obtain ⟨i, w⟩ := q
  unfold am_lp
  rw [List.mem_filterMap]
  constructor
  · rintro ⟨j, hj, hq⟩
    cases h : lv[j]? with
    | none => rw [h] at hq; cases hq
    | some o =>
      cases o with
      | none => rw [h] at hq; cases hq
      | some v => rw [h] at hq; cases hq; exact ⟨v, h, rfl⟩
  · rintro ⟨v, h1, h2⟩
    refine ⟨i, List.mem_range.mpr (List.getElem?_eq_some_iff.mp h1).1, ?_⟩
    dsimp only at h1 h2
    rw [h1, h2]; rfl
theorem am_lv.has {b z : Nat} {ls : Array Slot} {lv : am_L} (h : am_lv b z ls lv) : lv_has ls lv.length (am_lp b z lv) :=
  ⟨h.2.1, h.1, fun q hq => by obtain ⟨v, h1, h2⟩ := am_lp_mem.mp hq; rw [h2]; exact h.2.2 _ v h1⟩
def am_clr1 (lv : am_L) (i : Nat) : am_L := match lv[i]? with
  | some (some (.inr (.inl _))) => lv.set i none
  | _ => lv
def am_clr (lv : am_L) : Nat → am_L
  | 0 => lv
  | i + 1 => am_clr1 lv i
def am_st1 (lv : am_L) (i : Nat) (v : am_V) : am_L := (am_clr lv i).set i (some v)
def am_st2 (lv : am_L) (i : Nat) (v : am_V) : am_L := ((am_clr lv i).set (i + 1) none).set i (some v)
theorem am_clr_len (lv : am_L) (i : Nat) : (am_clr lv i).length = lv.length := by
  cases i with
  | zero => rfl
  | succ i =>
    show (am_clr1 lv i).length = lv.length
    unfold am_clr1; split
    · simp
    · rfl
theorem am_clr_get {lv : am_L} {i j : Nat} {w : am_V} (hj : (am_clr lv i)[j]? = some (some w)) : lv[j]? = some (some w) ∧ ¬ (j + 1 = i ∧ am_cat w = 2) := by
  cases i with
  | zero => exact ⟨hj, by omega⟩
  | succ i =>
    replace hj : (am_clr1 lv i)[j]? = some (some w) := hj
    unfold am_clr1 at hj
    split at hj
    · next x hx =>
      by_cases e : j = i
      · subst e
        rw [List.getElem?_set_self ((List.getElem?_eq_some_iff.mp hx).1)] at hj
        cases hj
      · rw [List.getElem?_set_ne (Ne.symm e)] at hj
        exact ⟨hj, by omega⟩
    · next hx =>
      refine ⟨hj, fun ⟨e, hc⟩ => ?_⟩
      have e2 : j = i := by omega
      subst e2
      match w, hc, hj with
      | .inr (.inl x), _, hj => exact hx x hj
theorem am_lv.st1 {b z : Nat} {ls' : Array Slot} {lv : am_L} {i : Nat} {v : am_V} (hi : i < lv.length) (h : lv_has ls' lv.length ((i, am_c b z v) :: (am_lp b z lv).filter (fun q => !(q.1 == i) && !(q.1 + 1 == i && q.2.category == 2)))) : am_lv b z ls' (am_st1 lv i v) := by
  obtain ⟨h1, h2, h3⟩ := h
  refine ⟨h2, by simp [am_st1, am_clr_len, h1], fun j w hj => ?_⟩
  by_cases hji : j = i
  · subst hji
    rw [am_st1, List.getElem?_set_self (by rw [am_clr_len]; exact hi)] at hj
    cases hj
    exact h3 _ List.mem_cons_self
  · rw [am_st1, List.getElem?_set_ne (Ne.symm hji)] at hj
    obtain ⟨h4, h5⟩ := am_clr_get hj
    refine h3 (j, am_c b z w) (List.mem_cons_of_mem _ (List.mem_filter.mpr ⟨am_lp_mem.mpr ⟨w, h4, rfl⟩, ?_⟩))
    dsimp only
    rw [am_c_cat]
    by_cases h6 : j + 1 = i
    · have h7 : ¬ am_cat w = 2 := fun q => h5 ⟨h6, q⟩
      simp [hji, h7]
    · simp [hji, h6]
theorem am_lv.st2 {b z : Nat} {ls' : Array Slot} {lv : am_L} {i : Nat} {v : am_V} (hi : i + 1 < lv.length) (h : lv_has ls' lv.length ((i, am_c b z v) :: (am_lp b z lv).filter (fun q => !(q.1 == i) && (!(q.1 == i + 1) && !(q.1 + 1 == i && q.2.category == 2))))) : am_lv b z ls' (am_st2 lv i v) := by
  obtain ⟨h1, h2, h3⟩ := h
  refine ⟨h2, by simp [am_st2, am_clr_len, h1], fun j w hj => ?_⟩
  by_cases hji : j = i
  · subst hji
    rw [am_st2, List.getElem?_set_self (by rw [List.length_set, am_clr_len]; omega)] at hj
    cases hj
    exact h3 _ List.mem_cons_self
  · rw [am_st2, List.getElem?_set_ne (Ne.symm hji)] at hj
    by_cases hj2 : j = i + 1
    · subst hj2
      rw [List.getElem?_set_self (by rw [am_clr_len]; exact hi)] at hj
      cases hj
    · rw [List.getElem?_set_ne (Ne.symm hj2)] at hj
      obtain ⟨h4, h5⟩ := am_clr_get hj
      refine h3 (j, am_c b z w) (List.mem_cons_of_mem _ (List.mem_filter.mpr ⟨am_lp_mem.mpr ⟨w, h4, rfl⟩, ?_⟩))
      dsimp only
      rw [am_c_cat]
      by_cases h6 : j + 1 = i
      · have h7 : ¬ am_cat w = 2 := fun q => h5 ⟨h6, q⟩
        simp [hji, hj2, h7]
      · simp [hji, hj2, h6]
/-! the locals with which a method begins -/
def am_ea : List am_V → am_L
  | [] => []
  | .inr (.inl x) :: t => some (vL x) :: none :: am_ea t
  | v :: t => some v :: am_ea t
def am_ent (n : Nat) (as : List am_V) : am_L := am_ea as ++ List.replicate (n - (am_ea as).length) none
theorem am_ea_len (b z : Nat) (as : List am_V) : (lg_sl (as.map (am_c b z))).length = (am_ea as).length := by
  induction as with
  | nil => rfl
  | cons v t ih =>
    match v with
    | .inl _ => simpa [lg_sl, am_ea, am_c, Value.category] using ih
    | .inr (.inl _) => simpa [lg_sl, am_ea, am_c, Value.category] using ih
    | .inr (.inr none) => simpa [lg_sl, am_ea, am_c, Value.category] using ih
    | .inr (.inr (some 0)) => simpa [lg_sl, am_ea, am_c, Value.category] using ih
    | .inr (.inr (some (_ + 1))) => simpa [lg_sl, am_ea, am_c, Value.category] using ih
theorem am_ea_at (b z : Nat) (as : List am_V) : ∀ (k i : Nat) (v : am_V), (am_ea as)[i]? = some (some v) → (k + i, am_c b z v) ∈ lv_args k (as.map (am_c b z)) := by
  induction as with
  | nil => intro k i v h; simp [am_ea] at h
  | cons w t ih =>
    intro k i v h
    have one : am_cat w = 1 → am_ea (w :: t) = some w :: am_ea t := by
      intro hc
      match w, hc with
      | .inl _, _ => rfl
      | .inr (.inr _), _ => rfl
    by_cases hc : am_cat w = 2
    · match w, hc with
      | .inr (.inl x), _ =>
        simp only [am_ea] at h
        simp only [List.map_cons, lv_args]
        match i, h with
        | 0, h => simp at h; subst h; simp
        | 1, h => simp at h
        | i + 2, h =>
          simp at h
          have h2 := ih (k + 2) i v h
          have e : k + 2 + i = k + (i + 2) := by omega
          rw [e] at h2
          exact List.mem_cons_of_mem _ (by simpa [am_c, Value.category] using h2)
    · have hc1 : am_cat w = 1 := by
        match w, hc with
        | .inl _, _ => rfl
        | .inr (.inr _), _ => rfl
      rw [one hc1] at h
      simp only [List.map_cons, lv_args]
      match i, h with
      | 0, h => simp at h; subst h; simp
      | i + 1, h =>
        simp at h
        have h2 := ih (k + 1) i v h
        have e : k + 1 + i = k + (i + 1) := by omega
        rw [e] at h2
        refine List.mem_cons_of_mem _ ?_
        rw [if_neg (by rw [am_c_cat]; exact hc)]
        exact h2
theorem am_ent_lv (b z n : Nat) (as : List am_V) (hn : (am_ea as).length ≤ n) : am_lv b z ((lg_sl (as.map (am_c b z)) ++ List.replicate (n - (lg_sl (as.map (am_c b z))).length) Slot.unset).toArray) (am_ent n as) := by
  have h := lv_entry (as.map (am_c b z)) (n := n) (by rw [am_ea_len]; exact hn)
  refine ⟨h.2.1, ?_, fun i v hi => ?_⟩
  · rw [h.1]; simp [am_ent]; omega
  · unfold am_ent at hi
    by_cases hl : i < (am_ea as).length
    · rw [List.getElem?_append_left hl] at hi
      have h2 := h.2.2 _ (am_ea_at b z as 0 i v hi)
      simpa using h2
    · rw [List.getElem?_append_right (by omega), List.getElem?_replicate] at hi
      split at hi <;> cases hi
/-! numbers -/
def am_in (x : Int) : Prop := -2147483648 ≤ x ∧ x < 2147483648
theorem am_in_toInt {x : Int} (h : am_in x) : (Int32.ofInt x).toInt = x := Int32.toInt_ofInt_of_le (by have := h.1; omega) (by have := h.2; omega)
theorem am_eqI {x y : Int} (hx : am_in x) (hy : am_in y) : Int32.ofInt x = Int32.ofInt y ↔ x = y := by
  rw [← Int32.toInt_inj, am_in_toInt hx, am_in_toInt hy]
theorem am_ltI {x y : Int} (hx : am_in x) (hy : am_in y) : Int32.ofInt x < Int32.ofInt y ↔ x < y := by
  rw [Int32.lt_iff_toInt_lt, am_in_toInt hx, am_in_toInt hy]
theorem am_leI {x y : Int} (hx : am_in x) (hy : am_in y) : Int32.ofInt x ≤ Int32.ofInt y ↔ x ≤ y := by
  rw [Int32.le_iff_toInt_le, am_in_toInt hx, am_in_toInt hy]
theorem am_in_0 : am_in 0 := ⟨by decide, by decide⟩
theorem am_0 : (0 : Int32) = Int32.ofInt 0 := rfl
theorem am_clamp {x : Int} (h0 : 0 ≤ x) (h : x < 2147483648) : (Int32.ofInt x).toNatClampNeg = x.toNat := by
  show (Int32.ofInt x).toInt.toNat = x.toNat
  rw [am_in_toInt ⟨by omega, h⟩]
theorem am_vpin {x : Int} {n : Nat} (h0 : 0 ≤ x) (h : x < n) (hn : (n : Int) < 2147483648) : vp_in (Int32.ofInt x) n := by
  rw [vp_in_iff, am_in_toInt ⟨by omega, by omega⟩]
  exact ⟨h0, h⟩
theorem am_nonneg {x : Int} (h0 : 0 ≤ x) (h : x < 2147483648) : ¬ Int32.ofInt x < 0 := by
  rw [am_0, am_ltI ⟨by omega, h⟩ am_in_0]; omega
def am_upd {α : Type} (f : Nat → α) (k : Nat) (x : α) : Nat → α := fun j => if j = k then x else f j
theorem am_upd_i (f : Nat → Int) (k : Nat) (x : Int) : (fun j => Int32.ofInt (am_upd f k x j)) = upd (fun j => Int32.ofInt (f j)) k (Int32.ofInt x) := by
  funext j; unfold am_upd upd; split <;> rfl
theorem am_upd_l (f : Nat → Int64) (k : Nat) (x : Int64) : am_upd f k x = vp_updL f k x := rfl
def am_cpy {α : Type} (f g : Nat → α) (sp dp n : Nat) : Nat → α := fun k => if dp ≤ k ∧ k < dp + n then f (sp + (k - dp)) else g k
theorem am_cpy_i (f g : Nat → Int) (sp dp n : Nat) : (fun j => Int32.ofInt (am_cpy f g sp dp n j)) = va_cpy (fun j => Int32.ofInt (f j)) (fun j => Int32.ofInt (g j)) sp dp n := by
  funext j; unfold am_cpy va_cpy; split <;> rfl
theorem am_div {x y : Int} (hx : 0 ≤ x) (hx2 : x < 2147483648) (hy : 0 < y) (hy2 : y < 2147483648) : Int32.ofInt x / Int32.ofInt y = Int32.ofInt (x / y) := by
  have h := pk_div (a := x.toNat) (d := y.toNat) (by omega) (by omega) (by omega)
  have ex : Int32.ofInt x = nI x.toNat := by rw [nI, ← Int32.ofInt_eq_ofNat, Int.toNat_of_nonneg hx]
  have ey : Int32.ofInt y = nI y.toNat := by rw [nI, ← Int32.ofInt_eq_ofNat, Int.toNat_of_nonneg (by omega)]
  rw [ex, ey, h, nI, ← Int32.ofInt_eq_ofNat]
  congr 1
  rw [Int.natCast_ediv, Int.toNat_of_nonneg hx, Int.toNat_of_nonneg (by omega)]
theorem am_rem {x y : Int} (hx : 0 ≤ x) (hx2 : x < 2147483648) (hy : 0 < y) (hy2 : y < 2147483648) : Int32.ofInt x - Int32.ofInt x / Int32.ofInt y * Int32.ofInt y = Int32.ofInt (x % y) := by
  rw [am_div hx hx2 hy hy2, ← Int32.ofInt_mul, ← Int32.ofInt_sub]
  congr 1
  have := Int.emod_add_mul_ediv x y
  rw [Int.mul_comm] at this
  omega
def am_cmp (x y : Int64) : Int := if y < x then 1 else if x = y then 0 else -1
theorem am_cmp_c (x y : Int64) : lg_cmp x y = Int32.ofInt (am_cmp x y) := by
  unfold lg_cmp am_cmp
  by_cases h : y < x
  · rw [if_pos h, if_pos h]; rfl
  · rw [if_neg h, if_neg h]
    by_cases h2 : x = y
    · rw [if_pos h2, if_pos h2]; rfl
    · rw [if_neg h2, if_neg h2]; rfl
def am_and (x y : Int) : Int := (Int32.ofInt x &&& Int32.ofInt y).toInt
def am_or (x y : Int) : Int := (Int32.ofInt x ||| Int32.ofInt y).toInt
def am_xor (x y : Int) : Int := (Int32.ofInt x ^^^ Int32.ofInt y).toInt
def am_i2l (x : Int) : Int64 := (Int32.ofInt x).toInt64
def am_l2i (x : Int64) : Int := x.toInt32.toInt
def am_i2b (x : Int) : Int := (Int32.ofInt x).toInt8.toInt32.toInt
def am_shl (x : Int64) (y : Int) : Int64 := x <<< ((Int32.ofInt y).toInt64 &&& 63)
def am_shr (x : Int64) (y : Int) : Int64 := x >>> ((Int32.ofInt y).toInt64 &&& 63)
def am_ushr (x : Int64) (y : Int) : Int64 := (x.toUInt64 >>> ((Int32.ofInt y).toInt64.toUInt64 &&& Int64.toUInt64 63)).toInt64
theorem am_dfl_of {n : Nat} {ty : Nat → FieldType} {fs : List Value} (h : (List.range n).map (fun j => defaultValue (ty j)) = fs) : ∀ j, j < n → defaultValue (ty j) = vp_V fs j := by
  subst h
  intro j hj
  simp [vp_V, hj]
