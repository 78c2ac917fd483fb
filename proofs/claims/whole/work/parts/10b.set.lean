/-! ===== reads and writes of the tables; fewer locals ===== -/
abbrev ir (x : Int) : Prop := -2147483648 ≤ x ∧ x < 2147483648
abbrev rI (g : G2) (r k : Nat) : Int := g.1 r k
abbrev rJ (g : G2) (r k : Nat) : Int64 := g.2.1 r k
abbrev rA (g : G2) (r : Nat) (i : Int) : Int := g.2.2.1 r i.toNat
abbrev rB (g : G2) (r : Nat) (i : Int) : Int64 := g.2.2.2 r i.toNat
def gI (g : G2) (r k : Nat) (v : Int) : G2 := (am_upd g.1 r (am_upd (g.1 r) k v), g.2)
def gJ (g : G2) (r k : Nat) (v : Int64) : G2 := (g.1, am_upd g.2.1 r (am_upd (g.2.1 r) k v), g.2.2)
def gA (g : G2) (r : Nat) (i : Int) (v : Int) : G2 := (g.1, g.2.1, am_upd g.2.2.1 r (am_upd (g.2.2.1 r) i.toNat v), g.2.2.2)
def gB (g : G2) (r : Nat) (i : Int) (v : Int64) : G2 := (g.1, g.2.1, g.2.2.1, am_upd g.2.2.2 r (am_upd (g.2.2.2 r) i.toNat v))
def gC (g : G2) (s t : Nat) (sp dp n : Int) : G2 := (g.1, g.2.1, am_upd g.2.2.1 t (am_cpy (g.2.2.1 s) (g.2.2.1 t) sp.toNat dp.toNat n.toNat), g.2.2.2)
theorem am_cmp0 {x y : Int64} : am_cmp x y = 0 ↔ x = y := by
  unfold am_cmp
  by_cases h : y < x
  · rw [if_pos h]
    constructor
    · intro q; cases q
    · intro q; subst q; exact absurd h Int64.lt_irrefl
  · rw [if_neg h]
    by_cases h2 : x = y
    · simp [h2]
    · simp [h2]
theorem am_cmpIn (x y : Int64) : am_in (am_cmp x y) := by
  unfold am_cmp am_in
  split
  · omega
  · split <;> omega
theorem am_i32In (x : Int32) : am_in x.toInt := ⟨by have := x.le_toInt; omega, by have := x.toInt_lt; omega⟩
theorem am_andIn (x y : Int) : am_in (am_and x y) := am_i32In _
theorem am_l2iIn (x : Int64) : am_in (am_l2i x) := am_i32In _
theorem am_i2bIn (x : Int) : am_in (am_i2b x) := am_i32In _
/-- b knows at least what a knows -/
def am_le : am_L → am_L → Prop
  | [], [] => True
  | none :: a, _ :: b => am_le a b
  | some x :: a, some y :: b => x = y ∧ am_le a b
  | _, _ => False
theorem am_le_len : ∀ {a b : am_L}, am_le a b → a.length = b.length
  | [], [], _ => rfl
  | none :: a, _ :: b, h => by simp [am_le_len (show am_le a b from h)]
  | some _ :: a, some _ :: b, h => by simp [am_le_len h.2]
theorem am_le_at : ∀ {a b : am_L}, am_le a b → ∀ (i : Nat) (v : am_V), a[i]? = some (some v) → b[i]? = some (some v)
  | [], [], _, i, v, h => by simp at h
  | none :: a, _ :: b, h, i, v, hi => by
    cases i with
    | zero => simp at hi
    | succ i => simp at hi; simpa using am_le_at (show am_le a b from h) i v hi
  | some x :: a, some y :: b, h, i, v, hi => by
    cases i with
    | zero => simp at hi; subst hi; simp [h.1]
    | succ i => simp at hi; simpa using am_le_at h.2 i v hi
theorem Go.weak {d N S L : Nat} {xs : Nat → Int} {mid : am_M} {pc : Nat} {lv lv0 : am_L} {st : List am_V} {h : am_H} (hle : am_le lv0 lv) : Go d N S L xs mid pc lv st h pc lv0 st h :=
  fun _ _ _ _ _ _ _ _ _ _ _ _ _ _ _ _ _ _ kk H locs ls cells slots hl hP hS hc hs => kk H locs ls cells slots ⟨hl.1, by rw [hl.2.1, am_le_len hle], fun i v q => hl.2.2 i v (am_le_at hle i v q)⟩ hP hS hc hs
theorem Rt.weak {d : Nat} {mid : am_M} {pc : Nat} {lv lv0 : am_L} {st : List am_V} {g g' : G2} {r : Option am_V} (k : Rt d mid pc lv0 st g r g') (hle : am_le lv0 lv) : Rt d mid pc lv st g r g' := by
  intro hl
  obtain ⟨pc2, lv2, h1, h2⟩ := k (by rw [am_le_len hle]; exact hl)
  exact ⟨pc2, lv2, h1, (Go.weak hle).trans h2⟩
/-- what goes on behind a call that answers -/
def bd {α β : Type} (x : Option (α × G2)) (f : α → G2 → Option β) : Option β := match x with
  | some q => f q.1 q.2
  | none => none
theorem bd_some {α β : Type} {x : Option (α × G2)} {f : α → G2 → Option β} {a : α} {g : G2} (h : x = some (a, g)) : bd x f = f a g := by rw [h]; rfl
theorem bd_inv {α β : Type} {x : Option (α × G2)} {f : α → G2 → Option β} {r : β} (h : bd x f = some r) : ∃ a g, x = some (a, g) ∧ f a g = some r := by
  unfold bd at h
  split at h
  · next q => exact ⟨q.1, q.2, rfl, h⟩
  · cases h
