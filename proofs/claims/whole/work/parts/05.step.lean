/-! one instruction as a function of the state; Hp: how the heap is told; O: what is done with it -/
abbrev am_O (Hp : Type) : Type := (Hp → Nat → Nat → Nat → Option am_V) × (Hp → Nat → Nat → Nat → am_V → Option Hp) × (Hp → Nat → Option am_A) × (Hp → Nat → am_F → Option Hp) × (Hp → Nat → Nat → Nat → Option (Nat × Hp × Prop)) × (Hp → Nat → Nat → FieldType → Int → am_F → Option (Nat × Hp × Prop)) × (Hp → Nat → Option Nat)
abbrev am_R (Hp : Type) : Type := Nat × am_L × List am_V × Hp × Option Prop
section STEP
variable {Hp : Type} {α : Type}
def am_i1 (st : List am_V) (f : Int → List am_V → Option α) : Option α := match st with
  | .inl x :: r => f x r
  | _ => none
def am_i2 (st : List am_V) (f : Int → Int → List am_V → Option α) : Option α := match st with
  | .inl y :: .inl x :: r => f x y r
  | _ => none
def am_l1 (st : List am_V) (f : Int64 → List am_V → Option α) : Option α := match st with
  | .inr (.inl x) :: r => f x r
  | _ => none
def am_l2 (st : List am_V) (f : Int64 → Int64 → List am_V → Option α) : Option α := match st with
  | .inr (.inl y) :: .inr (.inl x) :: r => f x y r
  | _ => none
def am_li (st : List am_V) (f : Int64 → Int → List am_V → Option α) : Option α := match st with
  | .inl y :: .inr (.inl x) :: r => f x y r
  | _ => none
def am_r1 (st : List am_V) (f : Nat → List am_V → Option α) : Option α := match st with
  | .inr (.inr (some x)) :: r => f x r
  | _ => none
def am_ir (st : List am_V) (f : Nat → Int → List am_V → Option α) : Option α := match st with
  | .inl i :: .inr (.inr (some x)) :: r => f x i r
  | _ => none
def am_vir (st : List am_V) (f : Nat → Int → am_V → List am_V → Option α) : Option α := match st with
  | v :: .inl i :: .inr (.inr (some x)) :: r => f x i v r
  | _ => none
def am_vr (st : List am_V) (f : Nat → am_V → List am_V → Option α) : Option α := match st with
  | v :: .inr (.inr (some x)) :: r => f x v r
  | _ => none
def am_s1 (st : List am_V) (f : am_V → List am_V → Option α) : Option α := match st with
  | v :: r => f v r
  | _ => none
def am_s2 (st : List am_V) (f : am_V → am_V → List am_V → Option α) : Option α := match st with
  | v :: w :: r => f v w r
  | _ => none
def am_s3 (st : List am_V) (f : am_V → am_V → am_V → List am_V → Option α) : Option α := match st with
  | v :: w :: u :: r => f v w u r
  | _ => none
theorem am_i1_inv {st : List am_V} {f : Int → List am_V → Option α} {a : α} (h : am_i1 st f = some a) : ∃ x r, st = vI x :: r ∧ f x r = some a := by
  unfold am_i1 at h; split at h
  · exact ⟨_, _, rfl, h⟩
  · cases h
theorem am_i2_inv {st : List am_V} {f : Int → Int → List am_V → Option α} {a : α} (h : am_i2 st f = some a) : ∃ x y r, st = vI y :: vI x :: r ∧ f x y r = some a := by
  unfold am_i2 at h; split at h
  · exact ⟨_, _, _, rfl, h⟩
  · cases h
theorem am_l1_inv {st : List am_V} {f : Int64 → List am_V → Option α} {a : α} (h : am_l1 st f = some a) : ∃ x r, st = vL x :: r ∧ f x r = some a := by
  unfold am_l1 at h; split at h
  · exact ⟨_, _, rfl, h⟩
  · cases h
theorem am_l2_inv {st : List am_V} {f : Int64 → Int64 → List am_V → Option α} {a : α} (h : am_l2 st f = some a) : ∃ x y r, st = vL y :: vL x :: r ∧ f x y r = some a := by
  unfold am_l2 at h; split at h
  · exact ⟨_, _, _, rfl, h⟩
  · cases h
theorem am_li_inv {st : List am_V} {f : Int64 → Int → List am_V → Option α} {a : α} (h : am_li st f = some a) : ∃ x y r, st = vI y :: vL x :: r ∧ f x y r = some a := by
  unfold am_li at h; split at h
  · exact ⟨_, _, _, rfl, h⟩
  · cases h
theorem am_r1_inv {st : List am_V} {f : Nat → List am_V → Option α} {a : α} (h : am_r1 st f = some a) : ∃ x r, st = vR x :: r ∧ f x r = some a := by
  unfold am_r1 at h; split at h
  · exact ⟨_, _, rfl, h⟩
  · cases h
theorem am_ir_inv {st : List am_V} {f : Nat → Int → List am_V → Option α} {a : α} (h : am_ir st f = some a) : ∃ x i r, st = vI i :: vR x :: r ∧ f x i r = some a := by
  unfold am_ir at h; split at h
  · exact ⟨_, _, _, rfl, h⟩
  · cases h
theorem am_vir_inv {st : List am_V} {f : Nat → Int → am_V → List am_V → Option α} {a : α} (h : am_vir st f = some a) : ∃ x i v r, st = v :: vI i :: vR x :: r ∧ f x i v r = some a := by
  unfold am_vir at h; split at h
  · exact ⟨_, _, _, _, rfl, h⟩
  · cases h
theorem am_vr_inv {st : List am_V} {f : Nat → am_V → List am_V → Option α} {a : α} (h : am_vr st f = some a) : ∃ x v r, st = v :: vR x :: r ∧ f x v r = some a := by
  unfold am_vr at h; split at h
  · exact ⟨_, _, _, rfl, h⟩
  · cases h
theorem am_s1_inv {st : List am_V} {f : am_V → List am_V → Option α} {a : α} (h : am_s1 st f = some a) : ∃ v r, st = v :: r ∧ f v r = some a := by
  unfold am_s1 at h; split at h
  · exact ⟨_, _, rfl, h⟩
  · cases h
theorem am_s2_inv {st : List am_V} {f : am_V → am_V → List am_V → Option α} {a : α} (h : am_s2 st f = some a) : ∃ v w r, st = v :: w :: r ∧ f v w r = some a := by
  unfold am_s2 at h; split at h
  · exact ⟨_, _, _, rfl, h⟩
  · cases h
theorem am_s3_inv {st : List am_V} {f : am_V → am_V → am_V → List am_V → Option α} {a : α} (h : am_s3 st f = some a) : ∃ v w u r, st = v :: w :: u :: r ∧ f v w u r = some a := by
  unfold am_s3 at h; split at h
  · exact ⟨_, _, _, _, rfl, h⟩
  · cases h
def am_ldI (lv : am_L) (i : Nat) (f : Int → Option α) : Option α := match lv[i]? with
  | some (some (.inl x)) => f x
  | _ => none
def am_ldL (lv : am_L) (i : Nat) (f : Int64 → Option α) : Option α := match lv[i]? with
  | some (some (.inr (.inl x))) => f x
  | _ => none
def am_ldR (lv : am_L) (i : Nat) (f : Nat → Option α) : Option α := match lv[i]? with
  | some (some (.inr (.inr (some x)))) => f x
  | _ => none
def am_has (lv : am_L) (i : Nat) (f : Option α) : Option α := match lv[i]? with
  | some _ => f
  | none => none
theorem am_ldI_inv {lv : am_L} {i : Nat} {f : Int → Option α} {a : α} (h : am_ldI lv i f = some a) : ∃ x, lv[i]? = some (some (vI x)) ∧ f x = some a := by
  unfold am_ldI at h; split at h
  · next x hx => exact ⟨x, hx, h⟩
  · cases h
theorem am_ldL_inv {lv : am_L} {i : Nat} {f : Int64 → Option α} {a : α} (h : am_ldL lv i f = some a) : ∃ x, lv[i]? = some (some (vL x)) ∧ f x = some a := by
  unfold am_ldL at h; split at h
  · next x hx => exact ⟨x, hx, h⟩
  · cases h
theorem am_ldR_inv {lv : am_L} {i : Nat} {f : Nat → Option α} {a : α} (h : am_ldR lv i f = some a) : ∃ x, lv[i]? = some (some (vR x)) ∧ f x = some a := by
  unfold am_ldR at h; split at h
  · next x hx => exact ⟨x, hx, h⟩
  · cases h
theorem am_has_inv {lv : am_L} {i : Nat} {f : Option α} {a : α} (h : am_has lv i f = some a) : i < lv.length ∧ f = some a := by
  unfold am_has at h; split at h
  · next x hx => exact ⟨(List.getElem?_eq_some_iff.mp hx).1, h⟩
  · cases h
def am_g1 (v : am_V) (f : Option α) : Option α := match v with
  | .inr (.inl _) => none
  | _ => f
theorem am_g1_inv {v : am_V} {f : Option α} {a : α} (h : am_g1 v f = some a) : am_cat v = 1 ∧ f = some a := match v, h with
  | .inl _, h => ⟨rfl, h⟩
  | .inr (.inr _), h => ⟨rfl, h⟩
/-- which case of a switch -/
def am_lkP : List (Int × Int) → Nat → Int → Prop
  | [], _, _ => True
  | (a, _) :: _, 0, x => x = a
  | (a, _) :: t, k + 1, x => x ≠ a ∧ am_lkP t k x
def am_lkO (dflt : Int) : List (Int × Int) → Nat → Int
  | [], _ => dflt
  | (_, o) :: _, 0 => o
  | _ :: t, k + 1 => am_lkO dflt t k
theorem am_lk_off {dflt x : Int} : ∀ {l : List (Int × Int)} {k : Nat}, am_lkP l k x → Op.lookupswitch.offset l dflt x = am_lkO dflt l k := by
  intro l
  induction l with
  | nil => intro k _; rfl
  | cons a t ih =>
    obtain ⟨a, o⟩ := a
    intro k h
    cases k with
    | zero => rw [Op.lookupswitch.offset_cons, if_pos (show a = x from Eq.symm h)]; rfl
    | succ k => rw [Op.lookupswitch.offset_cons, if_neg (show ¬ a = x from fun q => h.1 q.symm)]; exact ih h.2
/-- a branch: to u, or on to the next -/
def am_br (ch nx u : Nat) (lv : am_L) (st : List am_V) (h : Hp) (P c cn : Prop) : am_R Hp := match ch with
  | 0 => (nx, lv, st, h, some (P ∧ cn))
  | _ => (u, lv, st, h, some (P ∧ c))
def am_brc (k : Jvm.ClassFile.Cond) (ch nx u : Nat) (lv : am_L) (st : List am_V) (h : Hp) (P : Prop) (x y : Int) : am_R Hp := match k with
  | .eq => am_br ch nx u lv st h P (x = y) (¬ x = y)
  | .ne => am_br ch nx u lv st h P (¬ x = y) (x = y)
  | .lt => am_br ch nx u lv st h P (x < y) (y ≤ x)
  | .ge => am_br ch nx u lv st h P (y ≤ x) (x < y)
  | .gt => am_br ch nx u lv st h P (y < x) (x ≤ y)
  | .le => am_br ch nx u lv st h P (x ≤ y) (y < x)
def am_rdI (O : am_O Hp) (L : Nat) (xs : Nat → Int) (law : Bool) (nx : Nat) (lv : am_L) (h : Hp) (r : Nat) (i : Int) (st : List am_V) : Option (am_R Hp) := match r with
  | 0 => match law with
    | true => some (nx, lv, vI (xs i.toNat) :: st, h, some (0 ≤ i ∧ i < (L : Int) ∧ (L : Int) < 2147483648))
    | false => none
  | r + 1 => match O.2.2.1 h r with
    | some (.int, n, .inl f) => some (nx, lv, vI (f i.toNat) :: st, h, some (0 ≤ i ∧ i < (n : Int) ∧ (n : Int) < 2147483648))
    | _ => none
def am_rdL (O : am_O Hp) (nx : Nat) (lv : am_L) (h : Hp) (r : Nat) (i : Int) (st : List am_V) : Option (am_R Hp) := match r with
  | 0 => none
  | r + 1 => match O.2.2.1 h r with
    | some (.long, n, .inr f) => some (nx, lv, vL (f i.toNat) :: st, h, some (0 ≤ i ∧ i < (n : Int) ∧ (n : Int) < 2147483648))
    | _ => none
def am_rdB (O : am_O Hp) (nx : Nat) (lv : am_L) (h : Hp) (r : Nat) (i : Int) (st : List am_V) : Option (am_R Hp) := match r with
  | 0 => none
  | r + 1 => match O.2.2.1 h r with
    | some (.byte, n, .inl f) => some (nx, lv, vI (f i.toNat) :: st, h, some (0 ≤ i ∧ i < (n : Int) ∧ (n : Int) < 2147483648))
    | some (.boolean, n, .inl f) => some (nx, lv, vI (f i.toNat) :: st, h, some (0 ≤ i ∧ i < (n : Int) ∧ (n : Int) < 2147483648))
    | _ => none
def am_wrI (O : am_O Hp) (nx : Nat) (lv : am_L) (h : Hp) (r : Nat) (i : Int) (v : am_V) (st : List am_V) : Option (am_R Hp) := match r, v with
  | r + 1, .inl x => match O.2.2.1 h r with
    | some (.int, n, .inl f) => (O.2.2.2.1 h r (.inl (am_upd f i.toNat x))).map fun h' => (nx, lv, st, h', some (0 ≤ i ∧ i < (n : Int) ∧ (n : Int) < 2147483648))
    | _ => none
  | _, _ => none
def am_wrL (O : am_O Hp) (nx : Nat) (lv : am_L) (h : Hp) (r : Nat) (i : Int) (v : am_V) (st : List am_V) : Option (am_R Hp) := match r, v with
  | r + 1, .inr (.inl x) => match O.2.2.1 h r with
    | some (.long, n, .inr f) => (O.2.2.2.1 h r (.inr (am_upd f i.toNat x))).map fun h' => (nx, lv, st, h', some (0 ≤ i ∧ i < (n : Int) ∧ (n : Int) < 2147483648))
    | _ => none
  | _, _ => none
def am_wrB (O : am_O Hp) (nx : Nat) (lv : am_L) (h : Hp) (r : Nat) (i : Int) (v : am_V) (st : List am_V) : Option (am_R Hp) := match r, v with
  | r + 1, .inl x => match O.2.2.1 h r with
    | some (.byte, n, .inl f) => (O.2.2.2.1 h r (.inl (am_upd f i.toNat x))).map fun h' => (nx, lv, st, h', some ((0 ≤ i ∧ i < (n : Int) ∧ (n : Int) < 2147483648) ∧ (-128 ≤ x ∧ x ≤ 127)))
    | some (.boolean, n, .inl f) => (O.2.2.2.1 h r (.inl (am_upd f i.toNat x))).map fun h' => (nx, lv, st, h', some ((0 ≤ i ∧ i < (n : Int) ∧ (n : Int) < 2147483648) ∧ (x = 0 ∨ x = 1)))
    | _ => none
  | _, _ => none
def am_rdN (O : am_O Hp) (L : Nat) (law : Bool) (nx : Nat) (lv : am_L) (h : Hp) (r : Nat) (st : List am_V) : Option (am_R Hp) := match r with
  | 0 => match law with
    | true => some (nx, lv, vI L :: st, h, none)
    | false => none
  | r + 1 => match O.2.2.1 h r with
    | some (ty, n, _) => (am_tyN ty).map fun _ => (nx, lv, vI n :: st, h, none)
    | none => none
def am_rdF (O : am_O Hp) (nx u v : Nat) (lv : am_L) (h : Hp) (r : Nat) (st : List am_V) : Option (am_R Hp) := match r with
  | 0 => none
  | r + 1 => (O.1 h u r v).map fun x => (nx, lv, x :: st, h, none)
def am_fitO (ty : FieldType) (v : am_V) : Option (Option Prop) := match ty, v with
  | .int, .inl _ => some none
  | .boolean, .inl z => some (some (z = 0 ∨ z = 1))
  | .long, .inr (.inl _) => some none
  | .object _, .inr (.inr _) => some none
  | .array _, .inr (.inr _) => some none
  | _, _ => none
theorem am_fitO_ok {ty : FieldType} {v : am_V} {P : Option Prop} (h : am_fitO ty v = some P) (hP : ∀ q, P = some q → q) : am_fit ty v := by
  match ty, v, h with
  | .int, .inl _, _ => exact trivial
  | .boolean, .inl z, h => cases h; exact hP _ rfl
  | .long, .inr (.inl _), _ => exact trivial
  | .object _, .inr (.inr _), _ => exact trivial
  | .array _, .inr (.inr _), _ => exact trivial
def am_wrF (O : am_O Hp) (nx u v : Nat) (lv : am_L) (h : Hp) (r : Nat) (x : am_V) (st : List am_V) : Option (am_R Hp) := match r with
  | 0 => none
  | r + 1 => match am_fitO (am_fty u v) x with
    | some P => (O.2.1 h u r v x).map fun h' => (nx, lv, st, h', P)
    | none => none
def am_sum (st : List am_V) : Nat := (st.map am_cat).sum
/-- arraycopy of ints -/
def am_copy (O : am_O Hp) (nx : Nat) (lv : am_L) (st : List am_V) (h : Hp) : Option (am_R Hp) := match st with
  | .inl n :: .inl dp :: .inr (.inr (some (t + 1))) :: .inl sp :: .inr (.inr (some (r + 1))) :: rest => match O.2.2.1 h r, O.2.2.1 h t with
    | some (.int, n0, .inl f), some (.int, n1, .inl g) => (O.2.2.2.1 h t (.inl (am_cpy f g sp.toNat dp.toNat n.toNat))).map fun h' => (nx, lv, rest, h', some ((0 ≤ sp ∧ 0 ≤ dp ∧ 0 ≤ n ∧ sp + n ≤ n0 ∧ dp + n ≤ n1 ∧ (n0 : Int) < 2147483648 ∧ (n1 : Int) < 2147483648) ∧ am_sum rest ≤ 8))
    | _, _ => none
  | _ => none
def am_max (x y : Int) : Int := if x < y then y else x
def am_isBr (ins : Instr) : Bool := match ins with
  | .ifCond _ _ => true
  | .if_icmp _ _ => true
  | .tableswitch _ _ _ _ => true
  | .lookupswitch _ _ => true
  | _ => false
def am_d2 (nx : Nat) (lv : am_L) (st : List am_V) (h : Hp) : Option (am_R Hp) := match st with
  | .inr (.inl x) :: r => some (nx, lv, vL x :: vL x :: r, h, none)
  | a :: b :: r => am_g1 a (am_g1 b (some (nx, lv, a :: b :: a :: b :: r, h, none)))
  | _ => none
def am_len (ins : Instr) : Nat := match ins with
  | .iconst _ => 1
  | .bipush _ => 2
  | .sipush _ => 3
  | .lconst _ => 1
  | .ldc2_w _ => 3
  | .iload _ => 2
  | .iload_n _ => 1
  | .lload _ => 2
  | .lload_n _ => 1
  | .aload _ => 2
  | .aload_n _ => 1
  | .istore _ => 2
  | .istore_n _ => 1
  | .lstore _ => 2
  | .lstore_n _ => 1
  | .astore _ => 2
  | .astore_n _ => 1
  | .iinc _ _ => 3
  | .goto _ => 3
  | .ifCond _ _ => 3
  | .if_icmp _ _ => 3
  | .getfield _ => 3
  | .putfield _ => 3
  | .new _ => 3
  | .newarray _ => 2
  | .invokespecial _ => 3
  | .invokestatic _ => 3
  | .invokevirtual _ => 3
  | .tableswitch _ _ _ _ => 0
  | .lookupswitch _ _ => 0
  | _ => 1
def am_step (O : am_O Hp) (N S L : Nat) (xs : Nat → Int) (mid : am_M) (ch : Nat) (ins : Instr) (nx u v : Nat) (pc : Nat) (lv : am_L) (st : List am_V) (h : Hp) : Option (am_R Hp) := match ins with
  | .iconst n => some (nx, lv, vI n :: st, h, none)
  | .bipush n => some (nx, lv, vI n :: st, h, none)
  | .sipush n => some (nx, lv, vI n :: st, h, none)
  | .lconst n => some (nx, lv, vL (Int64.ofNat n) :: st, h, none)
  | .ldc2_w _ => some (nx, lv, vL (Int64.ofNat u) :: st, h, none)
  | .iload i => am_ldI lv i fun x => some (nx, lv, vI x :: st, h, none)
  | .iload_n i => am_ldI lv i.val fun x => some (nx, lv, vI x :: st, h, none)
  | .lload i => am_ldL lv i fun x => some (nx, lv, vL x :: st, h, none)
  | .lload_n i => am_ldL lv i.val fun x => some (nx, lv, vL x :: st, h, none)
  | .aload i => am_ldR lv i fun x => some (nx, lv, vR x :: st, h, none)
  | .aload_n i => am_ldR lv i.val fun x => some (nx, lv, vR x :: st, h, none)
  | .istore i => am_i1 st fun x r => am_has lv i (some (nx, am_st1 lv i (vI x), r, h, none))
  | .istore_n i => am_i1 st fun x r => am_has lv i.val (some (nx, am_st1 lv i.val (vI x), r, h, none))
  | .lstore i => am_l1 st fun x r => am_has lv (i + 1) (some (nx, am_st2 lv i (vL x), r, h, none))
  | .lstore_n i => am_l1 st fun x r => am_has lv (i.val + 1) (some (nx, am_st2 lv i.val (vL x), r, h, none))
  | .astore i => am_r1 st fun x r => am_has lv i (some (nx, am_st1 lv i (vR x), r, h, none))
  | .astore_n i => am_r1 st fun x r => am_has lv i.val (some (nx, am_st1 lv i.val (vR x), r, h, none))
  | .iinc i n => am_ldI lv i fun x => some (nx, am_st1 lv i (vI (x + n)), st, h, none)
  | .iadd => am_i2 st fun x y r => some (nx, lv, vI (x + y) :: r, h, none)
  | .isub => am_i2 st fun x y r => some (nx, lv, vI (x - y) :: r, h, none)
  | .imul => am_i2 st fun x y r => some (nx, lv, vI (x * y) :: r, h, none)
  | .idiv => am_i2 st fun x y r => some (nx, lv, vI (x / y) :: r, h, some (0 ≤ x ∧ x < 2147483648 ∧ 0 < y ∧ y < 2147483648))
  | .irem => am_i2 st fun x y r => some (nx, lv, vI (x % y) :: r, h, some (0 ≤ x ∧ x < 2147483648 ∧ 0 < y ∧ y < 2147483648))
  | .iand => am_i2 st fun x y r => some (nx, lv, vI (am_and x y) :: r, h, none)
  | .ladd => am_l2 st fun x y r => some (nx, lv, vL (x + y) :: r, h, none)
  | .lsub => am_l2 st fun x y r => some (nx, lv, vL (x - y) :: r, h, none)
  | .lmul => am_l2 st fun x y r => some (nx, lv, vL (x * y) :: r, h, none)
  | .land => am_l2 st fun x y r => some (nx, lv, vL (x &&& y) :: r, h, none)
  | .lor => am_l2 st fun x y r => some (nx, lv, vL (x ||| y) :: r, h, none)
  | .lxor => am_l2 st fun x y r => some (nx, lv, vL (x ^^^ y) :: r, h, none)
  | .lshl => am_li st fun x y r => some (nx, lv, vL (am_shl x y) :: r, h, none)
  | .lshr => am_li st fun x y r => some (nx, lv, vL (am_shr x y) :: r, h, none)
  | .lushr => am_li st fun x y r => some (nx, lv, vL (am_ushr x y) :: r, h, none)
  | .i2l => am_i1 st fun x r => some (nx, lv, vL (am_i2l x) :: r, h, none)
  | .l2i => am_l1 st fun x r => some (nx, lv, vI (am_l2i x) :: r, h, none)
  | .i2b => am_i1 st fun x r => some (nx, lv, vI (am_i2b x) :: r, h, none)
  | .lcmp => am_l2 st fun x y r => some (nx, lv, vI (am_cmp x y) :: r, h, none)
  | .dup => am_s1 st fun a r => am_g1 a (some (nx, lv, a :: a :: r, h, none))
  | .pop => am_s1 st fun a r => am_g1 a (some (nx, lv, r, h, none))
  | .dup_x1 => am_s2 st fun a b r => am_g1 a (am_g1 b (some (nx, lv, a :: b :: a :: r, h, none)))
  | .dup_x2 => am_s3 st fun a b e r => am_g1 a (am_g1 b (am_g1 e (some (nx, lv, a :: b :: e :: a :: r, h, none))))
  | .dup2 => am_d2 nx lv st h
  | .goto _ => some (u, lv, st, h, none)
  | .ifCond c _ => am_i1 st fun x r => some (am_brc c ch nx u lv r h (-2147483648 ≤ x ∧ x < 2147483648) x 0)
  | .if_icmp c _ => am_i2 st fun x y r => some (am_brc c ch nx u lv r h ((-2147483648 ≤ x ∧ x < 2147483648) ∧ (-2147483648 ≤ y ∧ y < 2147483648)) x y)
  | .tableswitch dflt lo hi offs => am_i1 st fun x r => match offs[ch]? with
    | some off => some (((pc : Int) + off).toNat, lv, r, h, some ((-2147483648 ≤ x ∧ x < 2147483648) ∧ x = lo + ch ∧ x ≤ hi ∧ 0 ≤ (pc : Int) + off))
    | none => some (((pc : Int) + dflt).toNat, lv, r, h, some ((-2147483648 ≤ x ∧ x < 2147483648) ∧ (x < lo ∨ hi < x) ∧ 0 ≤ (pc : Int) + dflt))
  | .lookupswitch dflt ps => am_i1 st fun x r => some (((pc : Int) + am_lkO dflt ps.toList ch).toNat, lv, r, h, some ((-2147483648 ≤ x ∧ x < 2147483648) ∧ am_lkP ps.toList ch x ∧ 0 ≤ (pc : Int) + am_lkO dflt ps.toList ch))
  | .getfield _ => am_r1 st fun r rest => am_rdF O nx u v lv h r rest
  | .putfield _ => am_vr st fun r x rest => am_wrF O nx u v lv h r x rest
  | .iaload => am_ir st fun r i rest => am_rdI O L xs (am_law mid) nx lv h r i rest
  | .laload => am_ir st fun r i rest => am_rdL O nx lv h r i rest
  | .baload => am_ir st fun r i rest => am_rdB O nx lv h r i rest
  | .iastore => am_vir st fun r i x rest => am_wrI O nx lv h r i x rest
  | .lastore => am_vir st fun r i x rest => am_wrL O nx lv h r i x rest
  | .bastore => am_vir st fun r i x rest => am_wrB O nx lv h r i x rest
  | .arraylength => am_r1 st fun r rest => am_rdN O L (am_law mid) nx lv h r rest
  | .new _ => (O.2.2.2.2.1 h N S u).map fun q => (nx, lv, vR (q.1 + 1) :: st, q.2.1, some q.2.2)
  | .newarray a => am_i1 st fun n r => match am_at a with
    | some (ty, F) => (O.2.2.2.2.2.1 h N S ty n F).map fun q => (nx, lv, vR (q.1 + 1) :: r, q.2.1, some q.2.2)
    | none => none
  | .invokespecial _ => match v with
    | 1 => am_r1 st fun _ rest => some (nx, lv, rest, h, some (am_sum rest ≤ 8))
    | _ => none
  | .invokestatic _ => match v with
    | 1 => am_copy O nx lv st h
    | 2 => am_i2 st fun x y r => some (nx, lv, vI (am_max x y) :: r, h, some ((-2147483648 ≤ x ∧ x < 2147483648) ∧ (-2147483648 ≤ y ∧ y < 2147483648) ∧ am_sum r ≤ 8))
    | _ => none
  | _ => none
end STEP
