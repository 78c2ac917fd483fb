/-! ===== the heap behind the constructors, told by four tables of numbers: ints and longs in the fields (cell, field), ints and longs in the arrays (cell, place) ===== -/
abbrev am_LF : Type := Nat ⊕ (Nat ⊕ Int)
abbrev am_LC : Type := (FieldType × Nat) ⊕ (Nat × List am_LF)
abbrev G2 : Type := (Nat → Nat → Int) × (Nat → Nat → Int64) × (Nat → Nat → Int) × (Nat → Nat → Int64)
def ly_v (g : G2) (i k : Nat) : am_LF → am_V
  | .inl 0 => vI (g.1 i k)
  | .inl (_ + 1) => vL (g.2.1 i k)
  | .inr (.inl r) => vR r
  | .inr (.inr c) => vI c
def ly_f (g : G2) (i : Nat) : Nat → List am_LF → List am_V
  | _, [] => []
  | k, f :: t => ly_v g i k f :: ly_f g i (k + 1) t
def ly_c (g : G2) (i : Nat) : am_LC → am_E
  | .inl (.long, n) => .inl (.long, n, .inr (g.2.2.2 i))
  | .inl (ty, n) => .inl (ty, n, .inl (g.2.2.1 i))
  | .inr (ci, fs) => .inr (ci, ly_f g i 0 fs)
def ly_h (g : G2) : Nat → List am_LC → am_H
  | _, [] => []
  | i, c :: t => ly_c g i c :: ly_h g (i + 1) t
theorem ly_h_get (g : G2) (l : List am_LC) : ∀ (i r : Nat), (ly_h g i l)[r]? = (l[r]?).map (ly_c g (i + r)) := by
  induction l with
  | nil => intro i r; simp [ly_h]
  | cons a t ih =>
    intro i r
    cases r with
    | zero => simp [ly_h]
    | succ r =>
      simp only [ly_h, List.getElem?_cons_succ, ih (i + 1) r]
      have e : i + 1 + r = i + (r + 1) := by omega
      rw [e]
theorem ly_f_get (g : G2) (i : Nat) (l : List am_LF) : ∀ (k r : Nat), (ly_f g i k l)[r]? = (l[r]?).map (ly_v g i (k + r)) := by
  induction l with
  | nil => intro k r; simp [ly_f]
  | cons a t ih =>
    intro k r
    cases r with
    | zero => simp [ly_f]
    | succ r =>
      simp only [ly_f, List.getElem?_cons_succ, ih (k + 1) r]
      have e : k + 1 + r = k + (r + 1) := by omega
      rw [e]
theorem ly_h_len (g : G2) (l : List am_LC) : ∀ i, (ly_h g i l).length = l.length := by
  induction l with
  | nil => intro i; rfl
  | cons a t ih => intro i; simp [ly_h, ih (i + 1)]
theorem ly_f_len (g : G2) (i : Nat) (l : List am_LF) : ∀ k, (ly_f g i k l).length = l.length := by
  induction l with
  | nil => intro k; rfl
  | cons a t ih => intro k; simp [ly_f, ih (k + 1)]
theorem ly_f_same {g g' : G2} {i : Nat} (h1 : g'.1 i = g.1 i) (h2 : g'.2.1 i = g.2.1 i) (l : List am_LF) : ∀ k, ly_f g' i k l = ly_f g i k l := by
  induction l with
  | nil => intro k; rfl
  | cons a t ih =>
    intro k
    simp only [ly_f, ih (k + 1)]
    congr 1
    match a with
    | .inl 0 => simp [ly_v, h1]
    | .inl (_ + 1) => simp [ly_v, h2]
    | .inr (.inl _) => rfl
    | .inr (.inr _) => rfl
theorem ly_c_same {g g' : G2} {i : Nat} (h1 : g'.1 i = g.1 i) (h2 : g'.2.1 i = g.2.1 i) (h3 : g'.2.2.1 i = g.2.2.1 i) (h4 : g'.2.2.2 i = g.2.2.2 i) (c : am_LC) : ly_c g' i c = ly_c g i c := by
  match c with
  | .inr (ci, fs) => simp [ly_c, ly_f_same h1 h2]
  | .inl (ty, n) => cases ty <;> simp [ly_c, h3, h4]
/-- only the cell r differs -/
def ly_but (r : Nat) (g g' : G2) : Prop := ∀ i, i ≠ r → g'.1 i = g.1 i ∧ g'.2.1 i = g.2.1 i ∧ g'.2.2.1 i = g.2.2.1 i ∧ g'.2.2.2 i = g.2.2.2 i
theorem ly_h_set {r : Nat} {g g' : G2} (hb : ly_but r g g') (l : List am_LC) (c : am_LC) : ∀ (i k : Nat), i + k = r → l[k]? = some c → ly_h g' i l = (ly_h g i l).set k (ly_c g' r c) := by
  induction l with
  | nil => intro i k _ h; simp at h
  | cons a t ih =>
    intro i k hk hc
    cases k with
    | zero =>
      simp at hc
      subst hc
      have e : i = r := by omega
      subst e
      simp only [ly_h, List.set_cons_zero]
      congr 1
      clear ih
      have key : ∀ (t : List am_LC) (j : Nat), i < j → ly_h g' j t = ly_h g j t := by
        intro t
        induction t with
        | nil => intro j _; rfl
        | cons b t ih =>
          intro j hj
          obtain ⟨q1, q2, q3, q4⟩ := hb j (by omega)
          simp only [ly_h, ih (j + 1) (by omega), ly_c_same q1 q2 q3 q4]
      exact key t (i + 1) (by omega)
    | succ k =>
      simp at hc
      obtain ⟨q1, q2, q3, q4⟩ := hb i (by omega)
      simp only [ly_h, List.set_cons_succ, ly_c_same q1 q2 q3 q4]
      rw [ih (i + 1) k (by omega) hc]
theorem ly_f_setI {g : G2} {i k0 : Nat} {z : Int} (l : List am_LF) : ∀ (k r : Nat), k + r = k0 → l[r]? = some (.inl 0) → ly_f (am_upd g.1 i (am_upd (g.1 i) k0 z), g.2) i k l = (ly_f g i k l).set r (vI z) := by
  induction l with
  | nil => intro k r _ h; simp at h
  | cons a t ih =>
    intro k r hk hc
    cases r with
    | zero =>
      simp at hc
      subst hc
      have e : k = k0 := by omega
      subst e
      simp only [ly_f, List.set_cons_zero]
      have e1 : ly_v (am_upd g.1 i (am_upd (g.1 i) k z), g.2) i k (.inl 0) = vI z := by simp [ly_v, am_upd]
      rw [e1]
      congr 1
      clear ih
      have key : ∀ (t : List am_LF) (j : Nat), k < j → ly_f (am_upd g.1 i (am_upd (g.1 i) k z), g.2) i j t = ly_f g i j t := by
        intro t
        induction t with
        | nil => intro j _; rfl
        | cons b t ih =>
          intro j hj
          simp only [ly_f, ih (j + 1) (by omega)]
          congr 1
          match b with
          | .inl 0 => simp [ly_v, am_upd]; omega
          | .inl (_ + 1) => rfl
          | .inr (.inl _) => rfl
          | .inr (.inr _) => rfl
      exact key t (k + 1) (by omega)
    | succ r =>
      simp at hc
      simp only [ly_f, List.set_cons_succ]
      rw [ih (k + 1) r (by omega) hc]
      congr 1
      match a with
      | .inl 0 => simp [ly_v, am_upd]; omega
      | .inl (_ + 1) => rfl
      | .inr (.inl _) => rfl
      | .inr (.inr _) => rfl
theorem ly_f_setJ {g : G2} {i k0 q : Nat} {z : Int64} (l : List am_LF) : ∀ (k r : Nat), k + r = k0 → l[r]? = some (.inl (q + 1)) → ly_f (g.1, am_upd g.2.1 i (am_upd (g.2.1 i) k0 z), g.2.2) i k l = (ly_f g i k l).set r (vL z) := by
  induction l with
  | nil => intro k r _ h; simp at h
  | cons a t ih =>
    intro k r hk hc
    cases r with
    | zero =>
      simp at hc
      subst hc
      have e : k = k0 := by omega
      subst e
      simp only [ly_f, List.set_cons_zero]
      have e1 : ly_v (g.1, am_upd g.2.1 i (am_upd (g.2.1 i) k z), g.2.2) i k (.inl (q + 1)) = vL z := by simp [ly_v, am_upd]
      rw [e1]
      congr 1
      clear ih
      have key : ∀ (t : List am_LF) (j : Nat), k < j → ly_f (g.1, am_upd g.2.1 i (am_upd (g.2.1 i) k z), g.2.2) i j t = ly_f g i j t := by
        intro t
        induction t with
        | nil => intro j _; rfl
        | cons b t ih =>
          intro j hj
          simp only [ly_f, ih (j + 1) (by omega)]
          congr 1
          match b with
          | .inl 0 => rfl
          | .inl (_ + 1) => simp [ly_v, am_upd]; omega
          | .inr (.inl _) => rfl
          | .inr (.inr _) => rfl
      exact key t (k + 1) (by omega)
    | succ r =>
      simp at hc
      simp only [ly_f, List.set_cons_succ]
      rw [ih (k + 1) r (by omega) hc]
      congr 1
      match a with
      | .inl 0 => rfl
      | .inl (_ + 1) => simp [ly_v, am_upd]; omega
      | .inr (.inl _) => rfl
      | .inr (.inr _) => rfl
/-! ===== the cells that the two constructors leave, in the order of their making: what is fixed in them ===== -/
def ly_L : List am_LC := [.inr (0, [.inr (.inl 2), .inr (.inl 4), .inr (.inl 8), .inr (.inl 17), .inr (.inl 26), .inl 0]), .inr (1, [.inr (.inl 3), .inl 0, .inl 0, .inl 0, .inl 0, .inl 1, .inl 0, .inl 0]), .inl (.byte, 1600), .inr (2, [.inr (.inl 5), .inr (.inl 6), .inr (.inl 7), .inl 0, .inl 0, .inl 1]), .inl (.long, 60), .inl (.int, 60), .inl (.int, 60), .inr (3, [.inr (.inl 9), .inr (.inl 10), .inr (.inl 11), .inr (.inl 15), .inr (.inl 16)]), .inl (.long, 40), .inl (.int, 40), .inr (4, [.inr (.inr 40), .inr (.inl 12), .inr (.inl 13), .inr (.inl 14), .inl 0]), .inl (.int, 960), .inl (.int, 40), .inl (.long, 40), .inl (.long, 40), .inl (.int, 40), .inr (5, [.inr (.inl 18), .inr (.inl 19), .inr (.inl 20), .inr (.inl 21), .inr (.inl 22), .inr (.inl 23), .inr (.inl 24), .inr (.inl 25), .inl 0]), .inl (.int, 40), .inl (.int, 40), .inl (.int, 1600), .inl (.int, 40), .inl (.int, 40), .inl (.int, 1600), .inl (.boolean, 40), .inl (.boolean, 40), .inr (6, [.inr (.inl 4), .inr (.inl 8), .inr (.inl 17), .inr (.inl 27), .inr (.inl 34), .inr (.inl 44), .inl 0, .inl 0, .inl 1]), .inr (7, [.inl 1, .inl 1, .inl 1, .inr (.inl 28), .inl 0, .inr (.inl 29), .inl 0, .inr (.inl 30), .inr (.inl 31), .inr (.inl 32), .inr (.inl 33)]), .inl (.int, 40), .inl (.long, 60), .inl (.long, 6), .inl (.long, 6), .inl (.long, 6), .inl (.int, 6), .inr (8, [.inr (.inl 4), .inr (.inl 8), .inr (.inl 17), .inr (.inl 27), .inr (.inl 35), .inr (.inl 39), .inr (.inl 43), .inl 0]), .inr (4, [.inr (.inr 16), .inr (.inl 36), .inr (.inl 37), .inr (.inl 38), .inl 0]), .inl (.int, 384), .inl (.int, 16), .inl (.long, 16), .inr (4, [.inr (.inr 1), .inr (.inl 40), .inr (.inl 41), .inr (.inl 42), .inl 0]), .inl (.int, 24), .inl (.int, 1), .inl (.long, 1), .inl (.int, 60), .inr (9, [.inr (.inl 8), .inr (.inl 34), .inr (.inl 45), .inl 0, .inl 0, .inr (.inl 46), .inl 0, .inl 0, .inl 0, .inl 0]), .inl (.int, 60), .inr (4, [.inr (.inr 16), .inr (.inl 47), .inr (.inl 48), .inr (.inl 49), .inl 0]), .inl (.int, 384), .inl (.int, 16), .inl (.long, 16), .inr (10, [.inr (.inl 51), .inl 0, .inr (.inl 52), .inr (.inl 53), .inl 0, .inl 0, .inl 0, .inl 0, .inl 0, .inr (.inl 54), .inr (.inl 55), .inr (.inl 56), .inr (.inl 57), .inr (.inl 58), .inl 0, .inl 0, .inr (.inl 59), .inr (.inl 60), .inr (.inl 61), .inr (.inl 62), .inr (.inl 63), .inr (.inl 64), .inr (.inl 65), .inl 0, .inr (.inl 66), .inr (.inl 67), .inr (.inl 68), .inl 0, .inr (.inl 69), .inr (.inl 70), .inr (.inl 71), .inr (.inl 72), .inr (.inl 73), .inr (.inl 74), .inr (.inl 75), .inr (.inl 76), .inr (.inl 77), .inr (.inl 78), .inr (.inl 79), .inr (.inl 80), .inl 0, .inr (.inl 81), .inr (.inl 82), .inr (.inl 83), .inr (.inl 84), .inl 0, .inr (.inl 85), .inr (.inl 86), .inl 0, .inr (.inl 87), .inr (.inl 88), .inl 0, .inr (.inl 89), .inl 0, .inl 0, .inl 0, .inl 0]), .inl (.int, 1600), .inl (.int, 801), .inl (.int, 801), .inl (.long, 60), .inl (.int, 60), .inl (.boolean, 60), .inl (.int, 60), .inl (.int, 60), .inl (.int, 40), .inl (.int, 40), .inl (.int, 960), .inl (.int, 40), .inl (.boolean, 40), .inl (.int, 40), .inl (.int, 40), .inl (.int, 40), .inl (.int, 40), .inl (.int, 40), .inl (.int, 41), .inl (.int, 1640), .inl (.int, 41), .inl (.int, 1640), .inl (.int, 1640), .inl (.int, 41), .inl (.int, 41), .inl (.int, 41), .inl (.int, 1640), .inl (.boolean, 41), .inl (.boolean, 41), .inl (.int, 24), .inl (.boolean, 60), .inl (.int, 60), .inl (.int, 384), .inl (.int, 16), .inl (.int, 384), .inl (.int, 16), .inl (.int, 60), .inl (.int, 600), .inl (.int, 20)]
def ly_F (r : Nat) : Option am_LC := bif Nat.ble 89 r then none else (bif Nat.ble r 43 then (bif Nat.ble r 21 then (bif Nat.ble r 10 then (bif Nat.ble r 4 then (bif Nat.ble r 1 then (bif Nat.beq r 0 then some (.inr (0, [.inr (.inl 2), .inr (.inl 4), .inr (.inl 8), .inr (.inl 17), .inr (.inl 26), .inl 0])) else bif Nat.beq r 1 then some (.inr (1, [.inr (.inl 3), .inl 0, .inl 0, .inl 0, .inl 0, .inl 1, .inl 0, .inl 0])) else none) else (bif Nat.ble r 2 then (bif Nat.beq r 2 then some (.inl (.byte, 1600)) else none) else (bif Nat.beq r 3 then some (.inr (2, [.inr (.inl 5), .inr (.inl 6), .inr (.inl 7), .inl 0, .inl 0, .inl 1])) else bif Nat.beq r 4 then some (.inl (.long, 60)) else none))) else (bif Nat.ble r 7 then (bif Nat.ble r 5 then (bif Nat.beq r 5 then some (.inl (.int, 60)) else none) else (bif Nat.beq r 6 then some (.inl (.int, 60)) else bif Nat.beq r 7 then some (.inr (3, [.inr (.inl 9), .inr (.inl 10), .inr (.inl 11), .inr (.inl 15), .inr (.inl 16)])) else none)) else (bif Nat.ble r 8 then (bif Nat.beq r 8 then some (.inl (.long, 40)) else none) else (bif Nat.beq r 9 then some (.inl (.int, 40)) else bif Nat.beq r 10 then some (.inr (4, [.inr (.inr 40), .inr (.inl 12), .inr (.inl 13), .inr (.inl 14), .inl 0])) else none)))) else (bif Nat.ble r 15 then (bif Nat.ble r 12 then (bif Nat.beq r 11 then some (.inl (.int, 960)) else bif Nat.beq r 12 then some (.inl (.int, 40)) else none) else (bif Nat.ble r 13 then (bif Nat.beq r 13 then some (.inl (.long, 40)) else none) else (bif Nat.beq r 14 then some (.inl (.long, 40)) else bif Nat.beq r 15 then some (.inl (.int, 40)) else none))) else (bif Nat.ble r 18 then (bif Nat.ble r 16 then (bif Nat.beq r 16 then some (.inr (5, [.inr (.inl 18), .inr (.inl 19), .inr (.inl 20), .inr (.inl 21), .inr (.inl 22), .inr (.inl 23), .inr (.inl 24), .inr (.inl 25), .inl 0])) else none) else (bif Nat.beq r 17 then some (.inl (.int, 40)) else bif Nat.beq r 18 then some (.inl (.int, 40)) else none)) else (bif Nat.ble r 19 then (bif Nat.beq r 19 then some (.inl (.int, 1600)) else none) else (bif Nat.beq r 20 then some (.inl (.int, 40)) else bif Nat.beq r 21 then some (.inl (.int, 40)) else none))))) else (bif Nat.ble r 32 then (bif Nat.ble r 26 then (bif Nat.ble r 23 then (bif Nat.beq r 22 then some (.inl (.int, 1600)) else bif Nat.beq r 23 then some (.inl (.boolean, 40)) else none) else (bif Nat.ble r 24 then (bif Nat.beq r 24 then some (.inl (.boolean, 40)) else none) else (bif Nat.beq r 25 then some (.inr (6, [.inr (.inl 4), .inr (.inl 8), .inr (.inl 17), .inr (.inl 27), .inr (.inl 34), .inr (.inl 44), .inl 0, .inl 0, .inl 1])) else bif Nat.beq r 26 then some (.inr (7, [.inl 1, .inl 1, .inl 1, .inr (.inl 28), .inl 0, .inr (.inl 29), .inl 0, .inr (.inl 30), .inr (.inl 31), .inr (.inl 32), .inr (.inl 33)])) else none))) else (bif Nat.ble r 29 then (bif Nat.ble r 27 then (bif Nat.beq r 27 then some (.inl (.int, 40)) else none) else (bif Nat.beq r 28 then some (.inl (.long, 60)) else bif Nat.beq r 29 then some (.inl (.long, 6)) else none)) else (bif Nat.ble r 30 then (bif Nat.beq r 30 then some (.inl (.long, 6)) else none) else (bif Nat.beq r 31 then some (.inl (.long, 6)) else bif Nat.beq r 32 then some (.inl (.int, 6)) else none)))) else (bif Nat.ble r 37 then (bif Nat.ble r 34 then (bif Nat.beq r 33 then some (.inr (8, [.inr (.inl 4), .inr (.inl 8), .inr (.inl 17), .inr (.inl 27), .inr (.inl 35), .inr (.inl 39), .inr (.inl 43), .inl 0])) else bif Nat.beq r 34 then some (.inr (4, [.inr (.inr 16), .inr (.inl 36), .inr (.inl 37), .inr (.inl 38), .inl 0])) else none) else (bif Nat.ble r 35 then (bif Nat.beq r 35 then some (.inl (.int, 384)) else none) else (bif Nat.beq r 36 then some (.inl (.int, 16)) else bif Nat.beq r 37 then some (.inl (.long, 16)) else none))) else (bif Nat.ble r 40 then (bif Nat.ble r 38 then (bif Nat.beq r 38 then some (.inr (4, [.inr (.inr 1), .inr (.inl 40), .inr (.inl 41), .inr (.inl 42), .inl 0])) else none) else (bif Nat.beq r 39 then some (.inl (.int, 24)) else bif Nat.beq r 40 then some (.inl (.int, 1)) else none)) else (bif Nat.ble r 41 then (bif Nat.beq r 41 then some (.inl (.long, 1)) else none) else (bif Nat.beq r 42 then some (.inl (.int, 60)) else bif Nat.beq r 43 then some (.inr (9, [.inr (.inl 8), .inr (.inl 34), .inr (.inl 45), .inl 0, .inl 0, .inr (.inl 46), .inl 0, .inl 0, .inl 0, .inl 0])) else none)))))) else (bif Nat.ble r 65 then (bif Nat.ble r 54 then (bif Nat.ble r 48 then (bif Nat.ble r 45 then (bif Nat.beq r 44 then some (.inl (.int, 60)) else bif Nat.beq r 45 then some (.inr (4, [.inr (.inr 16), .inr (.inl 47), .inr (.inl 48), .inr (.inl 49), .inl 0])) else none) else (bif Nat.ble r 46 then (bif Nat.beq r 46 then some (.inl (.int, 384)) else none) else (bif Nat.beq r 47 then some (.inl (.int, 16)) else bif Nat.beq r 48 then some (.inl (.long, 16)) else none))) else (bif Nat.ble r 51 then (bif Nat.ble r 49 then (bif Nat.beq r 49 then some (.inr (10, [.inr (.inl 51), .inl 0, .inr (.inl 52), .inr (.inl 53), .inl 0, .inl 0, .inl 0, .inl 0, .inl 0, .inr (.inl 54), .inr (.inl 55), .inr (.inl 56), .inr (.inl 57), .inr (.inl 58), .inl 0, .inl 0, .inr (.inl 59), .inr (.inl 60), .inr (.inl 61), .inr (.inl 62), .inr (.inl 63), .inr (.inl 64), .inr (.inl 65), .inl 0, .inr (.inl 66), .inr (.inl 67), .inr (.inl 68), .inl 0, .inr (.inl 69), .inr (.inl 70), .inr (.inl 71), .inr (.inl 72), .inr (.inl 73), .inr (.inl 74), .inr (.inl 75), .inr (.inl 76), .inr (.inl 77), .inr (.inl 78), .inr (.inl 79), .inr (.inl 80), .inl 0, .inr (.inl 81), .inr (.inl 82), .inr (.inl 83), .inr (.inl 84), .inl 0, .inr (.inl 85), .inr (.inl 86), .inl 0, .inr (.inl 87), .inr (.inl 88), .inl 0, .inr (.inl 89), .inl 0, .inl 0, .inl 0, .inl 0])) else none) else (bif Nat.beq r 50 then some (.inl (.int, 1600)) else bif Nat.beq r 51 then some (.inl (.int, 801)) else none)) else (bif Nat.ble r 52 then (bif Nat.beq r 52 then some (.inl (.int, 801)) else none) else (bif Nat.beq r 53 then some (.inl (.long, 60)) else bif Nat.beq r 54 then some (.inl (.int, 60)) else none)))) else (bif Nat.ble r 59 then (bif Nat.ble r 56 then (bif Nat.beq r 55 then some (.inl (.boolean, 60)) else bif Nat.beq r 56 then some (.inl (.int, 60)) else none) else (bif Nat.ble r 57 then (bif Nat.beq r 57 then some (.inl (.int, 60)) else none) else (bif Nat.beq r 58 then some (.inl (.int, 40)) else bif Nat.beq r 59 then some (.inl (.int, 40)) else none))) else (bif Nat.ble r 62 then (bif Nat.ble r 60 then (bif Nat.beq r 60 then some (.inl (.int, 960)) else none) else (bif Nat.beq r 61 then some (.inl (.int, 40)) else bif Nat.beq r 62 then some (.inl (.boolean, 40)) else none)) else (bif Nat.ble r 63 then (bif Nat.beq r 63 then some (.inl (.int, 40)) else none) else (bif Nat.beq r 64 then some (.inl (.int, 40)) else bif Nat.beq r 65 then some (.inl (.int, 40)) else none))))) else (bif Nat.ble r 76 then (bif Nat.ble r 70 then (bif Nat.ble r 67 then (bif Nat.beq r 66 then some (.inl (.int, 40)) else bif Nat.beq r 67 then some (.inl (.int, 40)) else none) else (bif Nat.ble r 68 then (bif Nat.beq r 68 then some (.inl (.int, 41)) else none) else (bif Nat.beq r 69 then some (.inl (.int, 1640)) else bif Nat.beq r 70 then some (.inl (.int, 41)) else none))) else (bif Nat.ble r 73 then (bif Nat.ble r 71 then (bif Nat.beq r 71 then some (.inl (.int, 1640)) else none) else (bif Nat.beq r 72 then some (.inl (.int, 1640)) else bif Nat.beq r 73 then some (.inl (.int, 41)) else none)) else (bif Nat.ble r 74 then (bif Nat.beq r 74 then some (.inl (.int, 41)) else none) else (bif Nat.beq r 75 then some (.inl (.int, 41)) else bif Nat.beq r 76 then some (.inl (.int, 1640)) else none)))) else (bif Nat.ble r 82 then (bif Nat.ble r 79 then (bif Nat.ble r 77 then (bif Nat.beq r 77 then some (.inl (.boolean, 41)) else none) else (bif Nat.beq r 78 then some (.inl (.boolean, 41)) else bif Nat.beq r 79 then some (.inl (.int, 24)) else none)) else (bif Nat.ble r 80 then (bif Nat.beq r 80 then some (.inl (.boolean, 60)) else none) else (bif Nat.beq r 81 then some (.inl (.int, 60)) else bif Nat.beq r 82 then some (.inl (.int, 384)) else none))) else (bif Nat.ble r 85 then (bif Nat.ble r 83 then (bif Nat.beq r 83 then some (.inl (.int, 16)) else none) else (bif Nat.beq r 84 then some (.inl (.int, 384)) else bif Nat.beq r 85 then some (.inl (.int, 16)) else none)) else (bif Nat.ble r 86 then (bif Nat.beq r 86 then some (.inl (.int, 60)) else none) else (bif Nat.beq r 87 then some (.inl (.int, 600)) else bif Nat.beq r 88 then some (.inl (.int, 20)) else none)))))))
theorem ly_ok : (List.range 89).all (fun r => decide (ly_F r = ly_L[r]?)) = true := by decide +kernel
theorem ly_big (r : Nat) (h : 89 ≤ r) : ly_F r = none := by unfold ly_F; rw [Nat.ble_eq_true_of_le h]; rfl
theorem ly_at {r : Nat} {c : am_LC} (h : ly_F r = some c) : ly_L[r]? = some c := by
  by_cases hr : r < 89
  · have h1 := of_decide_eq_true (List.all_eq_true.mp ly_ok r (List.mem_range.mpr hr))
    rw [← h1]; exact h
  · rw [ly_big r (by omega)] at h; cases h
/-- the heap of g -/
def hp (g : G2) : am_H := ly_h g 0 ly_L
theorem hp_at {g : G2} {r : Nat} {c : am_LC} (h : ly_F r = some c) : (hp g)[r]? = some (ly_c g r c) := by
  unfold hp
  rw [ly_h_get, ly_at h]; simp
theorem hp_len (g : G2) : (hp g).length = 89 := by
  unfold hp; rw [ly_h_len]; rfl
def o2_get (g : G2) (ci r k : Nat) : Option am_V := match ly_F r with
  | some (.inr (c, fs)) => bif Nat.beq c ci then (fs[k]?).map (ly_v g r k) else none
  | _ => none
def o2_putv (g : G2) (r k : Nat) (f : Option am_LF) (v : am_V) : Option G2 := match f, v with
  | some (.inl 0), .inl z => some (am_upd g.1 r (am_upd (g.1 r) k z), g.2)
  | some (.inl (_ + 1)), .inr (.inl x) => some (g.1, am_upd g.2.1 r (am_upd (g.2.1 r) k x), g.2.2)
  | _, _ => none
def o2_put (g : G2) (ci r k : Nat) (v : am_V) : Option G2 := match ly_F r with
  | some (.inr (c, fs)) => bif Nat.beq c ci then o2_putv g r k fs[k]? v else none
  | _ => none
def o2_arr (g : G2) (r : Nat) : Option am_A := match ly_F r with
  | some (.inl (.long, n)) => some (.long, n, .inr (g.2.2.2 r))
  | some (.inl (ty, n)) => some (ty, n, .inl (g.2.2.1 r))
  | _ => none
def o2_sarr (g : G2) (r : Nat) (F : am_F) : Option G2 := match ly_F r, F with
  | some (.inl (.long, _)), .inr f => some (g.1, g.2.1, g.2.2.1, am_upd g.2.2.2 r f)
  | some (.inl (.int, _)), .inl f => some (g.1, g.2.1, am_upd g.2.2.1 r f, g.2.2.2)
  | some (.inl (.byte, _)), .inl f => some (g.1, g.2.1, am_upd g.2.2.1 r f, g.2.2.2)
  | some (.inl (.boolean, _)), .inl f => some (g.1, g.2.1, am_upd g.2.2.1 r f, g.2.2.2)
  | _, _ => none
def o2_cls (_ : G2) (r : Nat) : Option Nat := match ly_F r with
  | some (.inr (c, _)) => some c
  | _ => none
def O2 : am_O G2 := (o2_get, o2_put, o2_arr, o2_sarr, (fun _ _ _ _ => none), (fun _ _ _ _ _ _ => none), o2_cls)
theorem ly_but_A (g : G2) (r : Nat) (f : Nat → Int) : ly_but r g (g.1, g.2.1, am_upd g.2.2.1 r f, g.2.2.2) := fun i hi => ⟨rfl, rfl, by simp [am_upd, hi], rfl⟩
theorem hp_sarr {g g' : G2} {r : Nat} {c : am_LC} (hc : ly_F r = some c) (hb : ly_but r g g') : hp g' = (hp g).set r (ly_c g' r c) := ly_h_set hb ly_L c 0 r (by omega) (ly_at hc)
theorem O2_law : am_Law O2 hp := by
  refine ⟨?_, ?_, ?_, ?_, ?_, ?_, ?_⟩
  · intro g ci r k v h
    have h : o2_get g ci r k = some v := h
    unfold o2_get at h
    split at h
    · next c fs hc =>
      cases hb : Nat.beq c ci with
      | false => rw [hb] at h; cases h
      | true =>
        rw [hb] at h
        have e := Nat.eq_of_beq_eq_true hb
        subst e
        refine ⟨ly_f g r 0 fs, hp_at hc, ?_⟩
        rw [ly_f_get, Nat.zero_add]
        exact h
    · cases h
  · intro g ci r k v g' h
    have h : o2_put g ci r k v = some g' := h
    unfold o2_put at h
    split at h
    · next c fs hc =>
      cases hb : Nat.beq c ci with
      | false => rw [hb] at h; cases h
      | true =>
        rw [hb] at h
        have e := Nat.eq_of_beq_eq_true hb
        subst e
        have h : o2_putv g r k fs[k]? v = some g' := h
        unfold o2_putv at h
        split at h
        · next z hf =>
          cases h
          refine ⟨ly_f g r 0 fs, hp_at hc, by rw [ly_f_len]; exact (List.getElem?_eq_some_iff.mp hf).1, ?_⟩
          rw [hp_sarr hc (fun i hi => ⟨by simp [am_upd, hi], rfl, rfl, rfl⟩)]
          show (hp g).set r (.inr (c, ly_f _ r 0 fs)) = _
          rw [ly_f_setI fs 0 k (by omega) hf]
        · next q x hf =>
          cases h
          refine ⟨ly_f g r 0 fs, hp_at hc, by rw [ly_f_len]; exact (List.getElem?_eq_some_iff.mp hf).1, ?_⟩
          rw [hp_sarr hc (fun i hi => ⟨rfl, by simp [am_upd, hi], rfl, rfl⟩)]
          show (hp g).set r (.inr (c, ly_f _ r 0 fs)) = _
          rw [ly_f_setJ fs 0 k (by omega) hf]
        · cases h
    · cases h
  · intro g r a h
    have h : o2_arr g r = some a := h
    unfold o2_arr at h
    split at h
    · next n hc => cases h; exact hp_at hc
    · next ty n hno hc =>
      cases h
      rw [hp_at hc]
      cases ty <;> first | rfl | exact absurd rfl (hno n)
    · cases h
  · intro g r ty n F F' g' h1 h2
    have h1 : o2_arr g r = some (ty, n, F) := h1
    have h2 : o2_sarr g r F' = some g' := h2
    unfold o2_sarr at h2
    unfold o2_arr at h1
    split at h2
    · next m f hc =>
      rw [hc] at h1
      cases h1
      cases h2
      rw [hp_sarr hc (fun i hi => ⟨rfl, rfl, rfl, by simp [am_upd, hi]⟩)]
      show (hp g).set r (.inl (.long, n, .inr (am_upd g.2.2.2 r f r))) = _
      simp [am_upd]
    · next m f hc =>
      rw [hc] at h1
      cases h1
      cases h2
      rw [hp_sarr hc (ly_but_A g r f)]
      show (hp g).set r (.inl (.int, n, .inl (am_upd g.2.2.1 r f r))) = _
      simp [am_upd]
    · next m f hc =>
      rw [hc] at h1
      cases h1
      cases h2
      rw [hp_sarr hc (ly_but_A g r f)]
      show (hp g).set r (.inl (.byte, n, .inl (am_upd g.2.2.1 r f r))) = _
      simp [am_upd]
    · next m f hc =>
      rw [hc] at h1
      cases h1
      cases h2
      rw [hp_sarr hc (ly_but_A g r f)]
      show (hp g).set r (.inl (.boolean, n, .inl (am_upd g.2.2.1 r f r))) = _
      simp [am_upd]
    · cases h2
  · intro g N S ci q h; cases h
  · intro g N S ty n F q h; cases h
  · intro g r ci h
    have h : o2_cls g r = some ci := h
    unfold o2_cls at h
    split at h
    · next c fs hc => cases h; exact ⟨_, hp_at hc⟩
    · cases h
theorem ly_sz {g g' : G2} (l : List am_LC) : ∀ i, am_sl (ly_h g i l) = am_sl (ly_h g' i l) := by
  induction l with
  | nil => intro i; rfl
  | cons a t ih =>
    intro i
    simp only [ly_h, am_sl, ih (i + 1)]
    congr 1
    match a with
    | .inr (ci, fs) => simp [ly_c, am_sz, ly_f_len]
    | .inl (ty, n) => cases ty <;> simp [ly_c, am_sz]
def g2_0 : G2 := (fun _ _ => 0, fun _ _ => 0, fun _ _ => 0, fun _ _ => 0)
theorem hp_sl (g : G2) : am_sl (hp g) = 20964 := by
  unfold hp
  rw [ly_sz (g' := g2_0)]
  decide +kernel
