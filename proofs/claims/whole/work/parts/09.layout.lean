/-! ===== the heap behind the constructors, told by four tables of numbers: ints and longs in the fields (cell, field), ints and longs in the arrays (cell, place) ===== -/
abbrev am_LF : Type := Nat ⊕ (Nat ⊕ Int)
abbrev am_LC : Type := (FieldType × Nat × Nat) ⊕ (Nat × Nat × List am_LF)
abbrev G2 : Type := (Nat → Nat → Int) × (Nat → Nat → Int64) × (Nat → Nat → Int) × (Nat → Nat → Int64)
def ly_v (g : G2) (i k : Nat) : am_LF → am_V
  | .inl 0 => vI (g.1 i k)
  | .inl (_ + 1) => vL (g.2.1 i k)
  | .inr (.inl r) => vR r
  | .inr (.inr c) => vI c
def ly_f (g : G2) (i : Nat) : Nat → List am_LF → List am_V
  | _, [] => []
  | k, f :: t => ly_v g i k f :: ly_f g i (k + 1) t
/-- a cell: an array with its length, or an object with its class; each with its own place -/
def ly_c (g : G2) : am_LC → am_E
  | .inl (.long, n, i) => .inl (.long, n, .inr (g.2.2.2 i))
  | .inl (ty, n, i) => .inl (ty, n, .inl (g.2.2.1 i))
  | .inr (ci, i, fs) => .inr (ci, ly_f g i 0 fs)
def ly_i : am_LC → Nat
  | .inl a => a.2.2
  | .inr o => o.2.1
theorem ly_f_get (g : G2) (i : Nat) (l : List am_LF) : ∀ (k r : Nat), (ly_f g i k l)[r]? = (l[r]?).map (ly_v g i (k + r)) := by
  induction l with
  | nil => intro k r; simp [ly_f]
  | cons a t ih =>
    intro k r
    cases r with
    | zero => simp [ly_f]
    | succ r =>
      simp only [ly_f, List.getElem?_cons_succ, ih (k + 1) r]
      have e : k + 1 + r = k + (r + 1) := by omega
      rw [e]
theorem ly_f_len (g : G2) (i : Nat) (l : List am_LF) : ∀ k, (ly_f g i k l).length = l.length := by
  induction l with
  | nil => intro k; rfl
  | cons a t ih => intro k; simp [ly_f, ih (k + 1)]
theorem ly_f_same {g g' : G2} {i : Nat} (h1 : g'.1 i = g.1 i) (h2 : g'.2.1 i = g.2.1 i) (l : List am_LF) : ∀ k, ly_f g' i k l = ly_f g i k l := by
  induction l with
  | nil => intro k; rfl
  | cons a t ih =>
    intro k
    simp only [ly_f, ih (k + 1)]
    congr 1
    match a with
    | .inl 0 => simp [ly_v, h1]
    | .inl (_ + 1) => simp [ly_v, h2]
    | .inr (.inl _) => rfl
    | .inr (.inr _) => rfl
/-- only the cell r differs -/
def ly_but (r : Nat) (g g' : G2) : Prop := ∀ i, i ≠ r → g'.1 i = g.1 i ∧ g'.2.1 i = g.2.1 i ∧ g'.2.2.1 i = g.2.2.1 i ∧ g'.2.2.2 i = g.2.2.2 i
theorem ly_c_same {r : Nat} {g g' : G2} (hb : ly_but r g g') (c : am_LC) (hc : ly_i c ≠ r) : ly_c g' c = ly_c g c := by
  match c, hc with
  | .inr (ci, i, fs), hc =>
    obtain ⟨h1, h2, h3, h4⟩ := hb i hc
    show Sum.inr (ci, ly_f g' i 0 fs) = Sum.inr (ci, ly_f g i 0 fs)
    rw [ly_f_same h1 h2]
  | .inl (ty, n, i), hc =>
    obtain ⟨h1, h2, h3, h4⟩ := hb i hc
    cases ty <;> simp [ly_c, h3, h4]
theorem ly_f_setI {g : G2} {i k0 : Nat} {z : Int} (l : List am_LF) : ∀ (k r : Nat), k + r = k0 → l[r]? = some (.inl 0) → ly_f (am_upd g.1 i (am_upd (g.1 i) k0 z), g.2) i k l = (ly_f g i k l).set r (vI z) := by
  induction l with
  | nil => intro k r _ h; simp at h
  | cons a t ih =>
    intro k r hk hc
    cases r with
    | zero =>
      simp at hc
      subst hc
      have e : k = k0 := by omega
      subst e
      simp only [ly_f, List.set_cons_zero]
      have e1 : ly_v (am_upd g.1 i (am_upd (g.1 i) k z), g.2) i k (.inl 0) = vI z := by simp [ly_v, am_upd]
      rw [e1]
      congr 1
      clear ih
      have key : ∀ (t : List am_LF) (j : Nat), k < j → ly_f (am_upd g.1 i (am_upd (g.1 i) k z), g.2) i j t = ly_f g i j t := by
        intro t
        induction t with
        | nil => intro j _; rfl
        | cons b t ih =>
          intro j hj
          simp only [ly_f, ih (j + 1) (by omega)]
          congr 1
          match b with
          | .inl 0 => simp [ly_v, am_upd]; omega
          | .inl (_ + 1) => rfl
          | .inr (.inl _) => rfl
          | .inr (.inr _) => rfl
      exact key t (k + 1) (by omega)
    | succ r =>
      simp at hc
      simp only [ly_f, List.set_cons_succ]
      rw [ih (k + 1) r (by omega) hc]
      congr 1
      match a with
      | .inl 0 => simp [ly_v, am_upd]; omega
      | .inl (_ + 1) => rfl
      | .inr (.inl _) => rfl
      | .inr (.inr _) => rfl
theorem ly_f_setJ {g : G2} {i k0 q : Nat} {z : Int64} (l : List am_LF) : ∀ (k r : Nat), k + r = k0 → l[r]? = some (.inl (q + 1)) → ly_f (g.1, am_upd g.2.1 i (am_upd (g.2.1 i) k0 z), g.2.2) i k l = (ly_f g i k l).set r (vL z) := by
  induction l with
  | nil => intro k r _ h; simp at h
  | cons a t ih =>
    intro k r hk hc
    cases r with
    | zero =>
      simp at hc
      subst hc
      have e : k = k0 := by omega
      subst e
      simp only [ly_f, List.set_cons_zero]
      have e1 : ly_v (g.1, am_upd g.2.1 i (am_upd (g.2.1 i) k z), g.2.2) i k (.inl (q + 1)) = vL z := by simp [ly_v, am_upd]
      rw [e1]
      congr 1
      clear ih
      have key : ∀ (t : List am_LF) (j : Nat), k < j → ly_f (g.1, am_upd g.2.1 i (am_upd (g.2.1 i) k z), g.2.2) i j t = ly_f g i j t := by
        intro t
        induction t with
        | nil => intro j _; rfl
        | cons b t ih =>
          intro j hj
          simp only [ly_f, ih (j + 1) (by omega)]
          congr 1
          match b with
          | .inl 0 => rfl
          | .inl (_ + 1) => simp [ly_v, am_upd]; omega
          | .inr (.inl _) => rfl
          | .inr (.inr _) => rfl
      exact key t (k + 1) (by omega)
    | succ r =>
      simp at hc
      simp only [ly_f, List.set_cons_succ]
      rw [ih (k + 1) r (by omega) hc]
      congr 1
      match a with
      | .inl 0 => rfl
      | .inl (_ + 1) => simp [ly_v, am_upd]; omega
      | .inr (.inl _) => rfl
      | .inr (.inr _) => rfl
/-! ===== the cells that the two constructors leave, in the order of their making: what is fixed in them ===== -/
def ly_L : List am_LC := [.inr (0, 0, [.inr (.inl 2), .inr (.inl 4), .inr (.inl 8), .inr (.inl 17), .inr (.inl 26), .inl 0]), .inr (1, 1, [.inr (.inl 3), .inl 0, .inl 0, .inl 0, .inl 0, .inl 1, .inl 0, .inl 0]), .inl (.byte, 1600, 2), .inr (2, 3, [.inr (.inl 5), .inr (.inl 6), .inr (.inl 7), .inl 0, .inl 0, .inl 1]), .inl (.long, 60, 4), .inl (.int, 60, 5), .inl (.int, 60, 6), .inr (3, 7, [.inr (.inl 9), .inr (.inl 10), .inr (.inl 11), .inr (.inl 15), .inr (.inl 16)]), .inl (.long, 40, 8), .inl (.int, 40, 9), .inr (4, 10, [.inr (.inr 40), .inr (.inl 12), .inr (.inl 13), .inr (.inl 14), .inl 0]), .inl (.int, 960, 11), .inl (.int, 40, 12), .inl (.long, 40, 13), .inl (.long, 40, 14), .inl (.int, 40, 15), .inr (5, 16, [.inr (.inl 18), .inr (.inl 19), .inr (.inl 20), .inr (.inl 21), .inr (.inl 22), .inr (.inl 23), .inr (.inl 24), .inr (.inl 25), .inl 0]), .inl (.int, 40, 17), .inl (.int, 40, 18), .inl (.int, 1600, 19), .inl (.int, 40, 20), .inl (.int, 40, 21), .inl (.int, 1600, 22), .inl (.boolean, 40, 23), .inl (.boolean, 40, 24), .inr (6, 25, [.inr (.inl 4), .inr (.inl 8), .inr (.inl 17), .inr (.inl 27), .inr (.inl 34), .inr (.inl 44), .inl 0, .inl 0, .inl 1]), .inr (7, 26, [.inl 1, .inl 1, .inl 1, .inr (.inl 28), .inl 0, .inr (.inl 29), .inl 0, .inr (.inl 30), .inr (.inl 31), .inr (.inl 32), .inr (.inl 33)]), .inl (.int, 40, 27), .inl (.long, 60, 28), .inl (.long, 6, 29), .inl (.long, 6, 30), .inl (.long, 6, 31), .inl (.int, 6, 32), .inr (8, 33, [.inr (.inl 4), .inr (.inl 8), .inr (.inl 17), .inr (.inl 27), .inr (.inl 35), .inr (.inl 39), .inr (.inl 43), .inl 0]), .inr (4, 34, [.inr (.inr 16), .inr (.inl 36), .inr (.inl 37), .inr (.inl 38), .inl 0]), .inl (.int, 384, 35), .inl (.int, 16, 36), .inl (.long, 16, 37), .inr (4, 38, [.inr (.inr 1), .inr (.inl 40), .inr (.inl 41), .inr (.inl 42), .inl 0]), .inl (.int, 24, 39), .inl (.int, 1, 40), .inl (.long, 1, 41), .inl (.int, 60, 42), .inr (9, 43, [.inr (.inl 8), .inr (.inl 34), .inr (.inl 45), .inl 0, .inl 0, .inr (.inl 46), .inl 0, .inl 0, .inl 0, .inl 0]), .inl (.int, 60, 44), .inr (4, 45, [.inr (.inr 16), .inr (.inl 47), .inr (.inl 48), .inr (.inl 49), .inl 0]), .inl (.int, 384, 46), .inl (.int, 16, 47), .inl (.long, 16, 48), .inr (10, 49, [.inr (.inl 51), .inl 0, .inr (.inl 52), .inr (.inl 53), .inl 0, .inl 0, .inl 0, .inl 0, .inl 0, .inr (.inl 54), .inr (.inl 55), .inr (.inl 56), .inr (.inl 57), .inr (.inl 58), .inl 0, .inl 0, .inr (.inl 59), .inr (.inl 60), .inr (.inl 61), .inr (.inl 62), .inr (.inl 63), .inr (.inl 64), .inr (.inl 65), .inl 0, .inr (.inl 66), .inr (.inl 67), .inr (.inl 68), .inl 0, .inr (.inl 69), .inr (.inl 70), .inr (.inl 71), .inr (.inl 72), .inr (.inl 73), .inr (.inl 74), .inr (.inl 75), .inr (.inl 76), .inr (.inl 77), .inr (.inl 78), .inr (.inl 79), .inr (.inl 80), .inl 0, .inr (.inl 81), .inr (.inl 82), .inr (.inl 83), .inr (.inl 84), .inl 0, .inr (.inl 85), .inr (.inl 86), .inl 0, .inr (.inl 87), .inr (.inl 88), .inl 0, .inr (.inl 89), .inl 0, .inl 0, .inl 0, .inl 0]), .inl (.int, 1600, 50), .inl (.int, 801, 51), .inl (.int, 801, 52), .inl (.long, 60, 53), .inl (.int, 60, 54), .inl (.boolean, 60, 55), .inl (.int, 60, 56), .inl (.int, 60, 57), .inl (.int, 40, 58), .inl (.int, 40, 59), .inl (.int, 960, 60), .inl (.int, 40, 61), .inl (.boolean, 40, 62), .inl (.int, 40, 63), .inl (.int, 40, 64), .inl (.int, 40, 65), .inl (.int, 40, 66), .inl (.int, 40, 67), .inl (.int, 41, 68), .inl (.int, 1640, 69), .inl (.int, 41, 70), .inl (.int, 1640, 71), .inl (.int, 1640, 72), .inl (.int, 41, 73), .inl (.int, 41, 74), .inl (.int, 41, 75), .inl (.int, 1640, 76), .inl (.boolean, 41, 77), .inl (.boolean, 41, 78), .inl (.int, 24, 79), .inl (.boolean, 60, 80), .inl (.int, 60, 81), .inl (.int, 384, 82), .inl (.int, 16, 83), .inl (.int, 384, 84), .inl (.int, 16, 85), .inl (.int, 60, 86), .inl (.int, 600, 87), .inl (.int, 20, 88)]
def ly_F (r : Nat) : Option am_LC := bif Nat.ble 89 r then none else (bif Nat.ble r 43 then (bif Nat.ble r 21 then (bif Nat.ble r 10 then (bif Nat.ble r 4 then (bif Nat.ble r 1 then (bif Nat.beq r 0 then some (.inr (0, 0, [.inr (.inl 2), .inr (.inl 4), .inr (.inl 8), .inr (.inl 17), .inr (.inl 26), .inl 0])) else bif Nat.beq r 1 then some (.inr (1, 1, [.inr (.inl 3), .inl 0, .inl 0, .inl 0, .inl 0, .inl 1, .inl 0, .inl 0])) else none) else (bif Nat.ble r 2 then (bif Nat.beq r 2 then some (.inl (.byte, 1600, 2)) else none) else (bif Nat.beq r 3 then some (.inr (2, 3, [.inr (.inl 5), .inr (.inl 6), .inr (.inl 7), .inl 0, .inl 0, .inl 1])) else bif Nat.beq r 4 then some (.inl (.long, 60, 4)) else none))) else (bif Nat.ble r 7 then (bif Nat.ble r 5 then (bif Nat.beq r 5 then some (.inl (.int, 60, 5)) else none) else (bif Nat.beq r 6 then some (.inl (.int, 60, 6)) else bif Nat.beq r 7 then some (.inr (3, 7, [.inr (.inl 9), .inr (.inl 10), .inr (.inl 11), .inr (.inl 15), .inr (.inl 16)])) else none)) else (bif Nat.ble r 8 then (bif Nat.beq r 8 then some (.inl (.long, 40, 8)) else none) else (bif Nat.beq r 9 then some (.inl (.int, 40, 9)) else bif Nat.beq r 10 then some (.inr (4, 10, [.inr (.inr 40), .inr (.inl 12), .inr (.inl 13), .inr (.inl 14), .inl 0])) else none)))) else (bif Nat.ble r 15 then (bif Nat.ble r 12 then (bif Nat.beq r 11 then some (.inl (.int, 960, 11)) else bif Nat.beq r 12 then some (.inl (.int, 40, 12)) else none) else (bif Nat.ble r 13 then (bif Nat.beq r 13 then some (.inl (.long, 40, 13)) else none) else (bif Nat.beq r 14 then some (.inl (.long, 40, 14)) else bif Nat.beq r 15 then some (.inl (.int, 40, 15)) else none))) else (bif Nat.ble r 18 then (bif Nat.ble r 16 then (bif Nat.beq r 16 then some (.inr (5, 16, [.inr (.inl 18), .inr (.inl 19), .inr (.inl 20), .inr (.inl 21), .inr (.inl 22), .inr (.inl 23), .inr (.inl 24), .inr (.inl 25), .inl 0])) else none) else (bif Nat.beq r 17 then some (.inl (.int, 40, 17)) else bif Nat.beq r 18 then some (.inl (.int, 40, 18)) else none)) else (bif Nat.ble r 19 then (bif Nat.beq r 19 then some (.inl (.int, 1600, 19)) else none) else (bif Nat.beq r 20 then some (.inl (.int, 40, 20)) else bif Nat.beq r 21 then some (.inl (.int, 40, 21)) else none))))) else (bif Nat.ble r 32 then (bif Nat.ble r 26 then (bif Nat.ble r 23 then (bif Nat.beq r 22 then some (.inl (.int, 1600, 22)) else bif Nat.beq r 23 then some (.inl (.boolean, 40, 23)) else none) else (bif Nat.ble r 24 then (bif Nat.beq r 24 then some (.inl (.boolean, 40, 24)) else none) else (bif Nat.beq r 25 then some (.inr (6, 25, [.inr (.inl 4), .inr (.inl 8), .inr (.inl 17), .inr (.inl 27), .inr (.inl 34), .inr (.inl 44), .inl 0, .inl 0, .inl 1])) else bif Nat.beq r 26 then some (.inr (7, 26, [.inl 1, .inl 1, .inl 1, .inr (.inl 28), .inl 0, .inr (.inl 29), .inl 0, .inr (.inl 30), .inr (.inl 31), .inr (.inl 32), .inr (.inl 33)])) else none))) else (bif Nat.ble r 29 then (bif Nat.ble r 27 then (bif Nat.beq r 27 then some (.inl (.int, 40, 27)) else none) else (bif Nat.beq r 28 then some (.inl (.long, 60, 28)) else bif Nat.beq r 29 then some (.inl (.long, 6, 29)) else none)) else (bif Nat.ble r 30 then (bif Nat.beq r 30 then some (.inl (.long, 6, 30)) else none) else (bif Nat.beq r 31 then some (.inl (.long, 6, 31)) else bif Nat.beq r 32 then some (.inl (.int, 6, 32)) else none)))) else (bif Nat.ble r 37 then (bif Nat.ble r 34 then (bif Nat.beq r 33 then some (.inr (8, 33, [.inr (.inl 4), .inr (.inl 8), .inr (.inl 17), .inr (.inl 27), .inr (.inl 35), .inr (.inl 39), .inr (.inl 43), .inl 0])) else bif Nat.beq r 34 then some (.inr (4, 34, [.inr (.inr 16), .inr (.inl 36), .inr (.inl 37), .inr (.inl 38), .inl 0])) else none) else (bif Nat.ble r 35 then (bif Nat.beq r 35 then some (.inl (.int, 384, 35)) else none) else (bif Nat.beq r 36 then some (.inl (.int, 16, 36)) else bif Nat.beq r 37 then some (.inl (.long, 16, 37)) else none))) else (bif Nat.ble r 40 then (bif Nat.ble r 38 then (bif Nat.beq r 38 then some (.inr (4, 38, [.inr (.inr 1), .inr (.inl 40), .inr (.inl 41), .inr (.inl 42), .inl 0])) else none) else (bif Nat.beq r 39 then some (.inl (.int, 24, 39)) else bif Nat.beq r 40 then some (.inl (.int, 1, 40)) else none)) else (bif Nat.ble r 41 then (bif Nat.beq r 41 then some (.inl (.long, 1, 41)) else none) else (bif Nat.beq r 42 then some (.inl (.int, 60, 42)) else bif Nat.beq r 43 then some (.inr (9, 43, [.inr (.inl 8), .inr (.inl 34), .inr (.inl 45), .inl 0, .inl 0, .inr (.inl 46), .inl 0, .inl 0, .inl 0, .inl 0])) else none)))))) else (bif Nat.ble r 65 then (bif Nat.ble r 54 then (bif Nat.ble r 48 then (bif Nat.ble r 45 then (bif Nat.beq r 44 then some (.inl (.int, 60, 44)) else bif Nat.beq r 45 then some (.inr (4, 45, [.inr (.inr 16), .inr (.inl 47), .inr (.inl 48), .inr (.inl 49), .inl 0])) else none) else (bif Nat.ble r 46 then (bif Nat.beq r 46 then some (.inl (.int, 384, 46)) else none) else (bif Nat.beq r 47 then some (.inl (.int, 16, 47)) else bif Nat.beq r 48 then some (.inl (.long, 16, 48)) else none))) else (bif Nat.ble r 51 then (bif Nat.ble r 49 then (bif Nat.beq r 49 then some (.inr (10, 49, [.inr (.inl 51), .inl 0, .inr (.inl 52), .inr (.inl 53), .inl 0, .inl 0, .inl 0, .inl 0, .inl 0, .inr (.inl 54), .inr (.inl 55), .inr (.inl 56), .inr (.inl 57), .inr (.inl 58), .inl 0, .inl 0, .inr (.inl 59), .inr (.inl 60), .inr (.inl 61), .inr (.inl 62), .inr (.inl 63), .inr (.inl 64), .inr (.inl 65), .inl 0, .inr (.inl 66), .inr (.inl 67), .inr (.inl 68), .inl 0, .inr (.inl 69), .inr (.inl 70), .inr (.inl 71), .inr (.inl 72), .inr (.inl 73), .inr (.inl 74), .inr (.inl 75), .inr (.inl 76), .inr (.inl 77), .inr (.inl 78), .inr (.inl 79), .inr (.inl 80), .inl 0, .inr (.inl 81), .inr (.inl 82), .inr (.inl 83), .inr (.inl 84), .inl 0, .inr (.inl 85), .inr (.inl 86), .inl 0, .inr (.inl 87), .inr (.inl 88), .inl 0, .inr (.inl 89), .inl 0, .inl 0, .inl 0, .inl 0])) else none) else (bif Nat.beq r 50 then some (.inl (.int, 1600, 50)) else bif Nat.beq r 51 then some (.inl (.int, 801, 51)) else none)) else (bif Nat.ble r 52 then (bif Nat.beq r 52 then some (.inl (.int, 801, 52)) else none) else (bif Nat.beq r 53 then some (.inl (.long, 60, 53)) else bif Nat.beq r 54 then some (.inl (.int, 60, 54)) else none)))) else (bif Nat.ble r 59 then (bif Nat.ble r 56 then (bif Nat.beq r 55 then some (.inl (.boolean, 60, 55)) else bif Nat.beq r 56 then some (.inl (.int, 60, 56)) else none) else (bif Nat.ble r 57 then (bif Nat.beq r 57 then some (.inl (.int, 60, 57)) else none) else (bif Nat.beq r 58 then some (.inl (.int, 40, 58)) else bif Nat.beq r 59 then some (.inl (.int, 40, 59)) else none))) else (bif Nat.ble r 62 then (bif Nat.ble r 60 then (bif Nat.beq r 60 then some (.inl (.int, 960, 60)) else none) else (bif Nat.beq r 61 then some (.inl (.int, 40, 61)) else bif Nat.beq r 62 then some (.inl (.boolean, 40, 62)) else none)) else (bif Nat.ble r 63 then (bif Nat.beq r 63 then some (.inl (.int, 40, 63)) else none) else (bif Nat.beq r 64 then some (.inl (.int, 40, 64)) else bif Nat.beq r 65 then some (.inl (.int, 40, 65)) else none))))) else (bif Nat.ble r 76 then (bif Nat.ble r 70 then (bif Nat.ble r 67 then (bif Nat.beq r 66 then some (.inl (.int, 40, 66)) else bif Nat.beq r 67 then some (.inl (.int, 40, 67)) else none) else (bif Nat.ble r 68 then (bif Nat.beq r 68 then some (.inl (.int, 41, 68)) else none) else (bif Nat.beq r 69 then some (.inl (.int, 1640, 69)) else bif Nat.beq r 70 then some (.inl (.int, 41, 70)) else none))) else (bif Nat.ble r 73 then (bif Nat.ble r 71 then (bif Nat.beq r 71 then some (.inl (.int, 1640, 71)) else none) else (bif Nat.beq r 72 then some (.inl (.int, 1640, 72)) else bif Nat.beq r 73 then some (.inl (.int, 41, 73)) else none)) else (bif Nat.ble r 74 then (bif Nat.beq r 74 then some (.inl (.int, 41, 74)) else none) else (bif Nat.beq r 75 then some (.inl (.int, 41, 75)) else bif Nat.beq r 76 then some (.inl (.int, 1640, 76)) else none)))) else (bif Nat.ble r 82 then (bif Nat.ble r 79 then (bif Nat.ble r 77 then (bif Nat.beq r 77 then some (.inl (.boolean, 41, 77)) else none) else (bif Nat.beq r 78 then some (.inl (.boolean, 41, 78)) else bif Nat.beq r 79 then some (.inl (.int, 24, 79)) else none)) else (bif Nat.ble r 80 then (bif Nat.beq r 80 then some (.inl (.boolean, 60, 80)) else none) else (bif Nat.beq r 81 then some (.inl (.int, 60, 81)) else bif Nat.beq r 82 then some (.inl (.int, 384, 82)) else none))) else (bif Nat.ble r 85 then (bif Nat.ble r 83 then (bif Nat.beq r 83 then some (.inl (.int, 16, 83)) else none) else (bif Nat.beq r 84 then some (.inl (.int, 384, 84)) else bif Nat.beq r 85 then some (.inl (.int, 16, 85)) else none)) else (bif Nat.ble r 86 then (bif Nat.beq r 86 then some (.inl (.int, 60, 86)) else none) else (bif Nat.beq r 87 then some (.inl (.int, 600, 87)) else bif Nat.beq r 88 then some (.inl (.int, 20, 88)) else none)))))))
theorem ly_ok : ∀ r, r < 89 → ly_F r = ly_L[r]? ∧ (ly_F r).map ly_i = some r := fun r h => match r, h with
  | 0, _ => ⟨rfl, rfl⟩
  | 1, _ => ⟨rfl, rfl⟩
  | 2, _ => ⟨rfl, rfl⟩
  | 3, _ => ⟨rfl, rfl⟩
  | 4, _ => ⟨rfl, rfl⟩
  | 5, _ => ⟨rfl, rfl⟩
  | 6, _ => ⟨rfl, rfl⟩
  | 7, _ => ⟨rfl, rfl⟩
  | 8, _ => ⟨rfl, rfl⟩
  | 9, _ => ⟨rfl, rfl⟩
  | 10, _ => ⟨rfl, rfl⟩
  | 11, _ => ⟨rfl, rfl⟩
  | 12, _ => ⟨rfl, rfl⟩
  | 13, _ => ⟨rfl, rfl⟩
  | 14, _ => ⟨rfl, rfl⟩
  | 15, _ => ⟨rfl, rfl⟩
  | 16, _ => ⟨rfl, rfl⟩
  | 17, _ => ⟨rfl, rfl⟩
  | 18, _ => ⟨rfl, rfl⟩
  | 19, _ => ⟨rfl, rfl⟩
  | 20, _ => ⟨rfl, rfl⟩
  | 21, _ => ⟨rfl, rfl⟩
  | 22, _ => ⟨rfl, rfl⟩
  | 23, _ => ⟨rfl, rfl⟩
  | 24, _ => ⟨rfl, rfl⟩
  | 25, _ => ⟨rfl, rfl⟩
  | 26, _ => ⟨rfl, rfl⟩
  | 27, _ => ⟨rfl, rfl⟩
  | 28, _ => ⟨rfl, rfl⟩
  | 29, _ => ⟨rfl, rfl⟩
  | 30, _ => ⟨rfl, rfl⟩
  | 31, _ => ⟨rfl, rfl⟩
  | 32, _ => ⟨rfl, rfl⟩
  | 33, _ => ⟨rfl, rfl⟩
  | 34, _ => ⟨rfl, rfl⟩
  | 35, _ => ⟨rfl, rfl⟩
  | 36, _ => ⟨rfl, rfl⟩
  | 37, _ => ⟨rfl, rfl⟩
  | 38, _ => ⟨rfl, rfl⟩
  | 39, _ => ⟨rfl, rfl⟩
  | 40, _ => ⟨rfl, rfl⟩
  | 41, _ => ⟨rfl, rfl⟩
  | 42, _ => ⟨rfl, rfl⟩
  | 43, _ => ⟨rfl, rfl⟩
  | 44, _ => ⟨rfl, rfl⟩
  | 45, _ => ⟨rfl, rfl⟩
  | 46, _ => ⟨rfl, rfl⟩
  | 47, _ => ⟨rfl, rfl⟩
  | 48, _ => ⟨rfl, rfl⟩
  | 49, _ => ⟨rfl, rfl⟩
  | 50, _ => ⟨rfl, rfl⟩
  | 51, _ => ⟨rfl, rfl⟩
  | 52, _ => ⟨rfl, rfl⟩
  | 53, _ => ⟨rfl, rfl⟩
  | 54, _ => ⟨rfl, rfl⟩
  | 55, _ => ⟨rfl, rfl⟩
  | 56, _ => ⟨rfl, rfl⟩
  | 57, _ => ⟨rfl, rfl⟩
  | 58, _ => ⟨rfl, rfl⟩
  | 59, _ => ⟨rfl, rfl⟩
  | 60, _ => ⟨rfl, rfl⟩
  | 61, _ => ⟨rfl, rfl⟩
  | 62, _ => ⟨rfl, rfl⟩
  | 63, _ => ⟨rfl, rfl⟩
  | 64, _ => ⟨rfl, rfl⟩
  | 65, _ => ⟨rfl, rfl⟩
  | 66, _ => ⟨rfl, rfl⟩
  | 67, _ => ⟨rfl, rfl⟩
  | 68, _ => ⟨rfl, rfl⟩
  | 69, _ => ⟨rfl, rfl⟩
  | 70, _ => ⟨rfl, rfl⟩
  | 71, _ => ⟨rfl, rfl⟩
  | 72, _ => ⟨rfl, rfl⟩
  | 73, _ => ⟨rfl, rfl⟩
  | 74, _ => ⟨rfl, rfl⟩
  | 75, _ => ⟨rfl, rfl⟩
  | 76, _ => ⟨rfl, rfl⟩
  | 77, _ => ⟨rfl, rfl⟩
  | 78, _ => ⟨rfl, rfl⟩
  | 79, _ => ⟨rfl, rfl⟩
  | 80, _ => ⟨rfl, rfl⟩
  | 81, _ => ⟨rfl, rfl⟩
  | 82, _ => ⟨rfl, rfl⟩
  | 83, _ => ⟨rfl, rfl⟩
  | 84, _ => ⟨rfl, rfl⟩
  | 85, _ => ⟨rfl, rfl⟩
  | 86, _ => ⟨rfl, rfl⟩
  | 87, _ => ⟨rfl, rfl⟩
  | 88, _ => ⟨rfl, rfl⟩
  | n + 89, h => absurd h (by omega)
theorem ly_big (r : Nat) (h : 89 ≤ r) : ly_F r = none := by unfold ly_F; rw [Nat.ble_eq_true_of_le h]; rfl
theorem ly_at {r : Nat} {c : am_LC} (h : ly_F r = some c) : ly_L[r]? = some c ∧ ly_i c = r := by
  by_cases hr : r < 89
  · obtain ⟨h2, h3⟩ := ly_ok r hr
    rw [h] at h2 h3
    exact ⟨h2.symm, Option.some.inj h3⟩
  · rw [ly_big r (by omega)] at h; cases h
/-- the heap of g -/
def hp (g : G2) : am_H := ly_L.map (ly_c g)
theorem hp_at {g : G2} {r : Nat} {c : am_LC} (h : ly_F r = some c) : (hp g)[r]? = some (ly_c g c) := by
  unfold hp
  rw [List.getElem?_map, (ly_at h).1]; rfl
theorem hp_len (g : G2) : (hp g).length = 89 := by
  unfold hp; rw [List.length_map]; rfl
theorem ly_pl {r : Nat} {c : am_LC} (h : ly_L[r]? = some c) : ly_i c = r := by
  have hr : r < 89 := (List.getElem?_eq_some_iff.mp h).1
  obtain ⟨h2, h3⟩ := ly_ok r hr
  rw [h] at h2
  exact (ly_at h2).2
def o2_get (g : G2) (ci r k : Nat) : Option am_V := match ly_F r with
  | some (.inr (c, i, fs)) => bif Nat.beq c ci then (fs[k]?).map (ly_v g i k) else none
  | _ => none
def o2_putv (g : G2) (r k : Nat) (f : Option am_LF) (v : am_V) : Option G2 := match f, v with
  | some (.inl 0), .inl z => some (am_upd g.1 r (am_upd (g.1 r) k z), g.2)
  | some (.inl (_ + 1)), .inr (.inl x) => some (g.1, am_upd g.2.1 r (am_upd (g.2.1 r) k x), g.2.2)
  | _, _ => none
def o2_put (g : G2) (ci r k : Nat) (v : am_V) : Option G2 := match ly_F r with
  | some (.inr (c, i, fs)) => bif Nat.beq c ci then o2_putv g i k fs[k]? v else none
  | _ => none
def o2_arr (g : G2) (r : Nat) : Option am_A := match ly_F r with
  | some (.inl (.long, n, i)) => some (.long, n, .inr (g.2.2.2 i))
  | some (.inl (ty, n, i)) => some (ty, n, .inl (g.2.2.1 i))
  | _ => none
def o2_sarr (g : G2) (r : Nat) (F : am_F) : Option G2 := match ly_F r, F with
  | some (.inl (.long, _, i)), .inr f => some (g.1, g.2.1, g.2.2.1, am_upd g.2.2.2 i f)
  | some (.inl (.int, _, i)), .inl f => some (g.1, g.2.1, am_upd g.2.2.1 i f, g.2.2.2)
  | some (.inl (.byte, _, i)), .inl f => some (g.1, g.2.1, am_upd g.2.2.1 i f, g.2.2.2)
  | some (.inl (.boolean, _, i)), .inl f => some (g.1, g.2.1, am_upd g.2.2.1 i f, g.2.2.2)
  | _, _ => none
def o2_cls (_ : G2) (r : Nat) : Option Nat := match ly_F r with
  | some (.inr (c, _, _)) => some c
  | _ => none
def O2 : am_O G2 := (o2_get, o2_put, o2_arr, o2_sarr, (fun _ _ _ _ => none), (fun _ _ _ _ _ _ => none), o2_cls)
theorem ly_but_A (g : G2) (r : Nat) (f : Nat → Int) : ly_but r g (g.1, g.2.1, am_upd g.2.2.1 r f, g.2.2.2) := fun i hi => ⟨rfl, rfl, by simp [am_upd, hi], rfl⟩
theorem hp_sarr {g g' : G2} {r : Nat} {c : am_LC} (hc : ly_F r = some c) (hb : ly_but r g g') : hp g' = (hp g).set r (ly_c g' c) := by
  have hlt : r < (hp g).length := by
    have h1 := (List.getElem?_eq_some_iff.mp (hp_at (g := g) hc)).1
    exact h1
  refine List.ext_getElem? (fun j => ?_)
  by_cases hj : j = r
  · subst hj
    rw [List.getElem?_set_self hlt, hp_at hc]
  · rw [List.getElem?_set_ne (Ne.symm hj)]
    unfold hp
    rw [List.getElem?_map, List.getElem?_map]
    cases hq : ly_L[j]? with
    | none => rfl
    | some e =>
      show some (ly_c g' e) = some (ly_c g e)
      rw [ly_c_same hb e (by rw [ly_pl hq]; exact hj)]
theorem O2_law : am_Law O2 hp := by
  refine ⟨?_, ?_, ?_, ?_, ?_, ?_, ?_⟩
  · intro g ci r k v h
    replace h : o2_get g ci r k = some v := h
    unfold o2_get at h
    split at h
    · next c i fs hc =>
      cases hb : Nat.beq c ci with
      | false => rw [hb] at h; cases h
      | true =>
        rw [hb] at h
        have e := Nat.eq_of_beq_eq_true hb
        subst e
        refine ⟨ly_f g i 0 fs, hp_at hc, ?_⟩
        rw [ly_f_get, Nat.zero_add]
        exact h
    · cases h
  · intro g ci r k v g' h
    replace h : o2_put g ci r k v = some g' := h
    unfold o2_put at h
    split at h
    · next c i fs hc =>
      have hi : i = r := (ly_at hc).2
      subst hi
      cases hb : Nat.beq c ci with
      | false => rw [hb] at h; cases h
      | true =>
        rw [hb] at h
        have e := Nat.eq_of_beq_eq_true hb
        subst e
        replace h : o2_putv g i k fs[k]? v = some g' := h
        unfold o2_putv at h
        split at h
        · next z hf =>
          cases h
          refine ⟨ly_f g i 0 fs, hp_at hc, by rw [ly_f_len]; exact (List.getElem?_eq_some_iff.mp hf).1, ?_⟩
          rw [hp_sarr (g := g) (g' := (am_upd g.1 i (am_upd (g.1 i) k z), g.2)) hc (fun j hj => ⟨by simp [am_upd, hj], rfl, rfl, rfl⟩)]
          show (hp g).set i (.inr (c, ly_f _ i 0 fs)) = _
          rw [ly_f_setI fs 0 k (by omega) hf]
        · next q x hf =>
          cases h
          refine ⟨ly_f g i 0 fs, hp_at hc, by rw [ly_f_len]; exact (List.getElem?_eq_some_iff.mp hf).1, ?_⟩
          rw [hp_sarr (g := g) (g' := (g.1, am_upd g.2.1 i (am_upd (g.2.1 i) k x), g.2.2)) hc (fun j hj => ⟨rfl, by simp [am_upd, hj], rfl, rfl⟩)]
          show (hp g).set i (.inr (c, ly_f _ i 0 fs)) = _
          rw [ly_f_setJ fs 0 k (by omega) hf]
        · cases h
    · cases h
  · intro g r a h
    replace h : o2_arr g r = some a := h
    unfold o2_arr at h
    split at h
    · next n i hc => cases h; exact hp_at hc
    · next ty n i hno hc =>
      cases h
      rw [hp_at hc]
      cases ty <;> first | rfl | exact absurd rfl hno
    · cases h
  · intro g r ty n F F' g' h1 h2
    replace h1 : o2_arr g r = some (ty, n, F) := h1
    replace h2 : o2_sarr g r F' = some g' := h2
    unfold o2_sarr at h2
    unfold o2_arr at h1
    split at h2
    · next m i f hc =>
      have hi : i = r := (ly_at hc).2
      subst hi
      rw [hc] at h1
      cases h1
      cases h2
      rw [hp_sarr (g := g) (g' := (g.1, g.2.1, g.2.2.1, am_upd g.2.2.2 i f)) hc (fun j hj => ⟨rfl, rfl, rfl, by simp [am_upd, hj]⟩)]
      show (hp g).set i (.inl (.long, n, .inr (am_upd g.2.2.2 i f i))) = _
      simp [am_upd]
    · next m i f hc =>
      have hi : i = r := (ly_at hc).2
      subst hi
      rw [hc] at h1
      cases h1
      cases h2
      rw [hp_sarr (g := g) hc (ly_but_A g i f)]
      show (hp g).set i (.inl (.int, n, .inl (am_upd g.2.2.1 i f i))) = _
      simp [am_upd]
    · next m i f hc =>
      have hi : i = r := (ly_at hc).2
      subst hi
      rw [hc] at h1
      cases h1
      cases h2
      rw [hp_sarr (g := g) hc (ly_but_A g i f)]
      show (hp g).set i (.inl (.byte, n, .inl (am_upd g.2.2.1 i f i))) = _
      simp [am_upd]
    · next m i f hc =>
      have hi : i = r := (ly_at hc).2
      subst hi
      rw [hc] at h1
      cases h1
      cases h2
      rw [hp_sarr (g := g) hc (ly_but_A g i f)]
      show (hp g).set i (.inl (.boolean, n, .inl (am_upd g.2.2.1 i f i))) = _
      simp [am_upd]
    · cases h2
  · intro g N S ci q h; cases h
  · intro g N S ty n F q h; cases h
  · intro g r ci h
    replace h : o2_cls g r = some ci := h
    unfold o2_cls at h
    split at h
    · next c i fs hc => cases h; exact ⟨_, hp_at hc⟩
    · cases h
theorem ly_sz {g g' : G2} (l : List am_LC) : am_sl (l.map (ly_c g)) = am_sl (l.map (ly_c g')) := by
  induction l with
  | nil => rfl
  | cons a t ih =>
    simp only [List.map_cons, am_sl, ih]
    congr 1
    match a with
    | .inr (ci, i, fs) => simp [ly_c, am_sz, ly_f_len]
    | .inl (ty, n, i) => cases ty <;> simp [ly_c, am_sz]
def g2_0 : G2 := (fun _ _ => 0, fun _ _ => 0, fun _ _ => 0, fun _ _ => 0)
theorem hp_sl (g : G2) : am_sl (hp g) = 20964 := by
  unfold hp
  rw [ly_sz (g' := g2_0)]
  decide +kernel
