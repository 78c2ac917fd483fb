/-! where a method of ours stands, and what it means to go on from there -/
def am_tys (tA : FieldType → ClassId) : List (ClassId × FieldType) := [(tA .int, .int), (tA .long, .long), (tA .byte, .byte), (tA .boolean, .boolean)]
def am_X (d N S L : Nat) (xs : Nat → Int) (mid : am_M) (p : Program) (R : Room) (s : State) (m : MethodId) (args : Array Value) (meth : Method) (c : Code) (b z n0 s0 : Nat) (tA : FieldType → ClassId) (D : va_G) : Prop :=
  p.tables.exec = Jvm.exec ∧ c.code = am_bytes mid ∧ c.maxLocals = am_maxL mid ∧ s.vm.findClass (am_own mid) = some m.cls ∧ (∀ w ∈ am_TS, w.before args s = true) ∧ va_K D am_cl (am_tys tA) s ∧ s.heap.size = z + n0 ∧ (am_init mid = true → meth.name = "<init>") ∧ d + 1 ≤ R.frames ∧ am_lw * (d + 1) ≤ R.locals ∧ N ≤ n0 + R.cells ∧ S ≤ s0 + R.slots ∧ (am_law mid = true → (∃ ys : Nat → Int32, va_X b L ys s s.heap ∧ ∀ j, j < L → ys j = Int32.ofInt (xs j)) ∧ b < z)
def am_W (p : Program) (l : Launch) (e : Env) (R : Room) (s : State) (m : MethodId) (args : Array Value) (below : List Frame) (meth : Method) (c : Code) (Q : State → Prop) (N S b z n0 s0 : Nat) (tA : FieldType → ClassId) (D : va_G) (pc : Nat) (lv : am_L) (st : List am_V) (h : am_H) : Prop :=
  ∀ (H : Heap) (locs : List Loc) (ls : Array Slot) (cells slots : Nat), am_lv b z ls lv → va_P D am_cl (am_cw b z tA 0 h) H → va_S (fun q => z ≤ q) s.heap H locs → (h.length = n0 + cells ∧ h.length ≤ N) → (am_sl h = s0 + slots ∧ am_sl h ≤ S) → W p l e R s m args below meth c H locs cells slots Q (F0 m pc ls (st.map (am_c b z)))
/-- from the first state the machine comes to the second, in a frame of method mid, with d frames more above it, N cells and S slots at most -/
def Go (d N S L : Nat) (xs : Nat → Int) (mid : am_M) (pc : Nat) (lv : am_L) (st : List am_V) (h : am_H) (pc' : Nat) (lv' : am_L) (st' : List am_V) (h' : am_H) : Prop :=
  ∀ (p : Program) (l : Launch) (e : Env) (R : Room) (s : State) (m : MethodId) (args : Array Value) (below : List Frame) (meth : Method) (c : Code) (Q : State → Prop) (b z n0 s0 : Nat) (tA : FieldType → ClassId) (D : va_G), am_X d N S L xs mid p R s m args meth c b z n0 s0 tA D →
    am_W p l e R s m args below meth c Q N S b z n0 s0 tA D pc' lv' st' h' → am_W p l e R s m args below meth c Q N S b z n0 s0 tA D pc lv st h
theorem am_size {p : Program} {l : Launch} {e : Env} {R : Room} {s : State} {m : MethodId} {args : Array Value} {below : List Frame} {meth : Method} {c : Code} {H : Heap} {locs : List Loc} {cells slots : Nat} {Q : State → Prop} {g : JFrame} (k : H.size ≤ s.heap.size + cells → W p l e R s m args below meth c H locs cells slots Q g) : W p l e R s m args below meth c H locs cells slots Q g :=
  fun T hT X => k (by rw [← hT]; exact X.heapSize) T hT X
section GO
variable {d N S L : Nat} {xs : Nat → Int} {mid : am_M} {pc : Nat} {lv : am_L} {st : List am_V} {h : am_H}
theorem Go.rfl' : Go d N S L xs mid pc lv st h pc lv st h := fun _ _ _ _ _ _ _ _ _ _ _ _ _ _ _ _ _ _ k => k
theorem Go.trans {pc1 pc2 : Nat} {lv1 lv2 : am_L} {st1 st2 : List am_V} {h1 h2 : am_H} (g1 : Go d N S L xs mid pc lv st h pc1 lv1 st1 h1) (g2 : Go d N S L xs mid pc1 lv1 st1 h1 pc2 lv2 st2 h2) : Go d N S L xs mid pc lv st h pc2 lv2 st2 h2 :=
  fun p l e R s m args below meth c Q b z n0 s0 tA D X k => g1 p l e R s m args below meth c Q b z n0 s0 tA D X (g2 p l e R s m args below meth c Q b z n0 s0 tA D X k)
/-- an instruction that changes the stack alone -/
theorem go_st {pc' : Nat} {st' : List am_V} (hw : ∀ {p : Program} {l : Launch} {e : Env} {R : Room} {s : State} {m : MethodId} {args : Array Value} {below : List Frame} {meth : Method} {c : Code} {H : Heap} {locs : List Loc} {cells slots : Nat} {Q : State → Prop} {ls : Array Slot} {b z : Nat}, p.tables.exec = Jvm.exec → c.code = am_bytes mid → am_lv b z ls lv → s.vm.findClass (am_own mid) = some m.cls → (∀ w ∈ am_TS, w.before args s = true) →
      W p l e R s m args below meth c H locs cells slots Q (F0 m pc' ls (st'.map (am_c b z))) → W p l e R s m args below meth c H locs cells slots Q (F0 m pc ls (st.map (am_c b z)))) : Go d N S L xs mid pc lv st h pc' lv st' h := by
  intro p l e R s m args below meth c Q b z n0 s0 tA D X kk H locs ls cells slots hl hP hS hc hs
  obtain ⟨hx, hb, hml, hown, hts, -⟩ := X
  exact hw hx hb hl hown hts (kk H locs ls cells slots hl hP hS hc hs)
theorem go_iconst {n : Int} (hd : decode (am_bytes mid) pc = .ok (.iconst n, 1)) : Go d N S L xs mid pc lv st h (pc + 1) lv (vI n :: st) h := go_st fun hx hb _ _ _ k => lv_iconst hx hb hd rfl k
theorem go_bipush {n : Int} (hd : decode (am_bytes mid) pc = .ok (.bipush n, 2)) (h1 : -128 ≤ n) (h2 : n ≤ 127) : Go d N S L xs mid pc lv st h (pc + 2) lv (vI n :: st) h := go_st fun hx hb _ _ _ k => lv_bipush hx hb hd (Int8.toInt32_ofInt h1 h2) k
theorem go_sipush {n : Int} (hd : decode (am_bytes mid) pc = .ok (.sipush n, 3)) (h1 : -32768 ≤ n) (h2 : n ≤ 32767) : Go d N S L xs mid pc lv st h (pc + 3) lv (vI n :: st) h := go_st fun hx hb _ _ _ k => lv_sipush hx hb hd (Int16.toInt32_ofInt h1 h2) k
theorem go_lconst {n : Fin 2} (hd : decode (am_bytes mid) pc = .ok (.lconst n, 1)) : Go d N S L xs mid pc lv st h (pc + 1) lv (vL (Int64.ofNat n) :: st) h := go_st fun hx hb _ _ _ k => lv_lconst hx hb hd rfl k
theorem go_ldc {i : Nat} {v : Int32} {n : Int} (hd : decode (am_bytes mid) pc = .ok (.ldc i, 2)) (hw : Jvm.Cond.constant (am_own mid) i v ∈ am_TS) (hn : v = Int32.ofInt n) : Go d N S L xs mid pc lv st h (pc + 2) lv (vI n :: st) h := go_st fun hx hb _ ho hts k => lv_ldc hx hb ho (hts _ hw) hd (by rw [hn]; exact k)
theorem go_ldc2 {i : Nat} {v : Int64} (hd : decode (am_bytes mid) pc = .ok (.ldc2_w i, 3)) (hw : Jvm.Cond.constantLong (am_own mid) i v ∈ am_TS) : Go d N S L xs mid pc lv st h (pc + 3) lv (vL v :: st) h := go_st fun hx hb _ ho hts k => lv_ldc2 hx hb ho (hts _ hw) hd k
theorem go_iload {i : Nat} {x : Int} (hd : decode (am_bytes mid) pc = .ok (.iload i, 2)) (hi : lv[i]? = some (some (vI x))) : Go d N S L xs mid pc lv st h (pc + 2) lv (vI x :: st) h := go_st fun hx hb hl _ _ k => lv_iload hx hb hd (hl.2.2 i _ hi) k
theorem go_iload_n {i : Fin 4} {x : Int} (hd : decode (am_bytes mid) pc = .ok (.iload_n i, 1)) (hi : lv[i.val]? = some (some (vI x))) : Go d N S L xs mid pc lv st h (pc + 1) lv (vI x :: st) h := go_st fun hx hb hl _ _ k => lv_iload_n hx hb hd rfl (hl.2.2 _ _ hi) k
theorem go_lload {i : Nat} {x : Int64} (hd : decode (am_bytes mid) pc = .ok (.lload i, 2)) (hi : lv[i]? = some (some (vL x))) : Go d N S L xs mid pc lv st h (pc + 2) lv (vL x :: st) h := go_st fun hx hb hl _ _ k => lv_lload hx hb hd (hl.2.2 i _ hi) k
theorem go_lload_n {i : Fin 4} {x : Int64} (hd : decode (am_bytes mid) pc = .ok (.lload_n i, 1)) (hi : lv[i.val]? = some (some (vL x))) : Go d N S L xs mid pc lv st h (pc + 1) lv (vL x :: st) h := go_st fun hx hb hl _ _ k => lv_lload_n hx hb hd rfl (hl.2.2 _ _ hi) k
theorem am_c_ref (b z r : Nat) : ∃ a, am_c b z (vR r) = .ref a := match r with
  | 0 => ⟨b, rfl⟩
  | r + 1 => ⟨z + r, rfl⟩
theorem go_aload {i r : Nat} (hd : decode (am_bytes mid) pc = .ok (.aload i, 2)) (hi : lv[i]? = some (some (vR r))) : Go d N S L xs mid pc lv st h (pc + 2) lv (vR r :: st) h := go_st fun {p l e R s m args below meth c H locs cells slots Q ls b z} hx hb hl _ _ k => by
  obtain ⟨a, ha⟩ := am_c_ref b z r
  exact lv_aload (x := a) hx hb hd (by rw [hl.2.2 i _ hi, ha]) (by rw [List.map_cons, ha] at k; exact k)
theorem go_aload_n {i : Fin 4} {r : Nat} (hd : decode (am_bytes mid) pc = .ok (.aload_n i, 1)) (hi : lv[i.val]? = some (some (vR r))) : Go d N S L xs mid pc lv st h (pc + 1) lv (vR r :: st) h := go_st fun {p l e R s m args below meth c H locs cells slots Q ls b z} hx hb hl _ _ k => by
  obtain ⟨a, ha⟩ := am_c_ref b z r
  exact lv_aload_n (x := a) hx hb hd rfl (by rw [hl.2.2 _ _ hi, ha]) (by rw [List.map_cons, ha] at k; exact k)
/-- an instruction that changes a local, and the stack -/
theorem go_lv {pc' : Nat} {lv' : am_L} {st' : List am_V} (hw : ∀ {p : Program} {l : Launch} {e : Env} {R : Room} {s : State} {m : MethodId} {args : Array Value} {below : List Frame} {meth : Method} {c : Code} {H : Heap} {locs : List Loc} {cells slots : Nat} {Q : State → Prop} {ls : Array Slot} {b z : Nat}, p.tables.exec = Jvm.exec → c.code = am_bytes mid → am_lv b z ls lv →
      (∀ ls' : Array Slot, am_lv b z ls' lv' → W p l e R s m args below meth c H locs cells slots Q (F0 m pc' ls' (st'.map (am_c b z)))) → W p l e R s m args below meth c H locs cells slots Q (F0 m pc ls (st.map (am_c b z)))) : Go d N S L xs mid pc lv st h pc' lv' st' h := by
  intro p l e R s m args below meth c Q b z n0 s0 tA D X kk H locs ls cells slots hl hP hS hc hs
  obtain ⟨hx, hb, -⟩ := X
  exact hw hx hb hl (fun ls' hl' => kk H locs ls' cells slots hl' hP hS hc hs)
theorem go_istore {i : Nat} {x : Int} (hd : decode (am_bytes mid) pc = .ok (.istore i, 2)) (hi : i < lv.length) : Go d N S L xs mid pc lv (vI x :: st) h (pc + 2) (am_st1 lv i (vI x)) st h := go_lv fun hx hb hl k => lv_istore hx hb hd hl.has hi rfl fun ls' h' => k ls' (am_lv.st1 hi h')
theorem go_istore_n {i : Fin 4} {x : Int} (hd : decode (am_bytes mid) pc = .ok (.istore_n i, 1)) (hi : i.val < lv.length) : Go d N S L xs mid pc lv (vI x :: st) h (pc + 1) (am_st1 lv i.val (vI x)) st h := go_lv fun hx hb hl k => lv_istore_n hx hb hd rfl hl.has hi rfl fun ls' h' => k ls' (am_lv.st1 hi h')
theorem go_lstore {i : Nat} {x : Int64} (hd : decode (am_bytes mid) pc = .ok (.lstore i, 2)) (hi : i + 1 < lv.length) : Go d N S L xs mid pc lv (vL x :: st) h (pc + 2) (am_st2 lv i (vL x)) st h := go_lv fun hx hb hl k => lv_lstore hx hb hd hl.has hi rfl fun ls' h' => k ls' (am_lv.st2 hi h')
theorem go_lstore_n {i : Fin 4} {x : Int64} (hd : decode (am_bytes mid) pc = .ok (.lstore_n i, 1)) (hi : i.val + 1 < lv.length) : Go d N S L xs mid pc lv (vL x :: st) h (pc + 1) (am_st2 lv i.val (vL x)) st h := go_lv fun hx hb hl k => lv_lstore_n hx hb hd rfl hl.has hi rfl fun ls' h' => k ls' (am_lv.st2 hi h')
theorem go_astore {i r : Nat} (hd : decode (am_bytes mid) pc = .ok (.astore i, 2)) (hi : i < lv.length) : Go d N S L xs mid pc lv (vR r :: st) h (pc + 2) (am_st1 lv i (vR r)) st h := go_lv fun {p l e R s m args below meth c H locs cells slots Q ls b z} hx hb hl k => by
  obtain ⟨a, ha⟩ := am_c_ref b z r
  rw [List.map_cons, ha]
  exact lv_astore (x := a) hx hb hd hl.has hi rfl fun ls' h' => k ls' (am_lv.st1 hi (by rw [ha]; exact h'))
theorem go_astore_n {i : Fin 4} {r : Nat} (hd : decode (am_bytes mid) pc = .ok (.astore_n i, 1)) (hi : i.val < lv.length) : Go d N S L xs mid pc lv (vR r :: st) h (pc + 1) (am_st1 lv i.val (vR r)) st h := go_lv fun {p l e R s m args below meth c H locs cells slots Q ls b z} hx hb hl k => by
  obtain ⟨a, ha⟩ := am_c_ref b z r
  rw [List.map_cons, ha]
  exact lv_astore_n (x := a) hx hb hd rfl hl.has hi rfl fun ls' h' => k ls' (am_lv.st1 hi (by rw [ha]; exact h'))
theorem go_iinc {i : Nat} {n x : Int} (hd : decode (am_bytes mid) pc = .ok (.iinc i n, 3)) (hi : lv[i]? = some (some (vI x))) : Go d N S L xs mid pc lv st h (pc + 3) (am_st1 lv i (vI (x + n))) st h := go_lv fun {p l e R s m args below meth c H locs cells slots Q ls b z} hx hb hl k => by
  have hil : i < lv.length := (List.getElem?_eq_some_iff.mp hi).1
  obtain ⟨j, hj⟩ := List.getElem?_of_mem (am_lp_mem (b := b) (z := z) (q := (i, am_c b z (vI x))) |>.mpr ⟨vI x, hi, rfl⟩)
  exact lv_iinc (k := j) (x := Int32.ofInt x) hx hb hd hl.has hj (Int32.ofInt_add x n).symm hil rfl fun ls' h' => k ls' (am_lv.st1 hil h')
theorem go_iadd {x y : Int} (hd : decode (am_bytes mid) pc = .ok (.iadd, 1)) : Go d N S L xs mid pc lv (vI y :: vI x :: st) h (pc + 1) lv (vI (x + y) :: st) h := go_st fun hx hb _ _ _ k => lv_iadd hx hb hd (by rw [← Int32.ofInt_add]; exact k)
theorem go_isub {x y : Int} (hd : decode (am_bytes mid) pc = .ok (.isub, 1)) : Go d N S L xs mid pc lv (vI y :: vI x :: st) h (pc + 1) lv (vI (x - y) :: st) h := go_st fun hx hb _ _ _ k => lv_isub hx hb hd (by rw [← Int32.ofInt_sub]; exact k)
theorem go_imul {x y : Int} (hd : decode (am_bytes mid) pc = .ok (.imul, 1)) : Go d N S L xs mid pc lv (vI y :: vI x :: st) h (pc + 1) lv (vI (x * y) :: st) h := go_st fun hx hb _ _ _ k => lv_imul hx hb hd (by rw [← Int32.ofInt_mul]; exact k)
theorem am_ne0 {y : Int} (h1 : 0 < y) (h2 : y < 2147483648) : ¬ Int32.ofInt y = 0 := by
  rw [am_0, am_eqI ⟨by omega, h2⟩ am_in_0]; omega
theorem go_idiv {x y : Int} (hd : decode (am_bytes mid) pc = .ok (.idiv, 1)) (q : 0 ≤ x ∧ x < 2147483648 ∧ 0 < y ∧ y < 2147483648) : Go d N S L xs mid pc lv (vI y :: vI x :: st) h (pc + 1) lv (vI (x / y) :: st) h := go_st fun hx hb _ _ _ k => lv_idiv hx hb hd (am_ne0 q.2.2.1 q.2.2.2) (by rw [am_div q.1 q.2.1 q.2.2.1 q.2.2.2]; exact k)
theorem go_irem {x y : Int} (hd : decode (am_bytes mid) pc = .ok (.irem, 1)) (q : 0 ≤ x ∧ x < 2147483648 ∧ 0 < y ∧ y < 2147483648) : Go d N S L xs mid pc lv (vI y :: vI x :: st) h (pc + 1) lv (vI (x % y) :: st) h := go_st fun hx hb _ _ _ k => lv_irem hx hb hd (am_ne0 q.2.2.1 q.2.2.2) (by rw [am_rem q.1 q.2.1 q.2.2.1 q.2.2.2]; exact k)
theorem go_ineg {x : Int} (hd : decode (am_bytes mid) pc = .ok (.ineg, 1)) : Go d N S L xs mid pc lv (vI x :: st) h (pc + 1) lv (vI (-x) :: st) h := go_st fun hx hb _ _ _ k => lv_ineg hx hb hd (by rw [← Int32.ofInt_neg]; exact k)
theorem go_iand {x y : Int} (hd : decode (am_bytes mid) pc = .ok (.iand, 1)) : Go d N S L xs mid pc lv (vI y :: vI x :: st) h (pc + 1) lv (vI (am_and x y) :: st) h := go_st fun hx hb _ _ _ k => lv_iand hx hb hd (by rw [← Int32.ofInt_toInt (Int32.ofInt _ &&& Int32.ofInt _)]; exact k)
theorem go_ladd {x y : Int64} (hd : decode (am_bytes mid) pc = .ok (.ladd, 1)) : Go d N S L xs mid pc lv (vL y :: vL x :: st) h (pc + 1) lv (vL (x + y) :: st) h := go_st fun hx hb _ _ _ k => lv_ladd hx hb hd k
theorem go_lsub {x y : Int64} (hd : decode (am_bytes mid) pc = .ok (.lsub, 1)) : Go d N S L xs mid pc lv (vL y :: vL x :: st) h (pc + 1) lv (vL (x - y) :: st) h := go_st fun hx hb _ _ _ k => lv_lsub hx hb hd k
theorem go_lmul {x y : Int64} (hd : decode (am_bytes mid) pc = .ok (.lmul, 1)) : Go d N S L xs mid pc lv (vL y :: vL x :: st) h (pc + 1) lv (vL (x * y) :: st) h := go_st fun hx hb _ _ _ k => lv_lmul hx hb hd k
theorem go_land {x y : Int64} (hd : decode (am_bytes mid) pc = .ok (.land, 1)) : Go d N S L xs mid pc lv (vL y :: vL x :: st) h (pc + 1) lv (vL (x &&& y) :: st) h := go_st fun hx hb _ _ _ k => lv_land hx hb hd k
theorem go_lor {x y : Int64} (hd : decode (am_bytes mid) pc = .ok (.lor, 1)) : Go d N S L xs mid pc lv (vL y :: vL x :: st) h (pc + 1) lv (vL (x ||| y) :: st) h := go_st fun hx hb _ _ _ k => lv_lor hx hb hd k
theorem go_lxor {x y : Int64} (hd : decode (am_bytes mid) pc = .ok (.lxor, 1)) : Go d N S L xs mid pc lv (vL y :: vL x :: st) h (pc + 1) lv (vL (x ^^^ y) :: st) h := go_st fun hx hb _ _ _ k => lv_lxor hx hb hd k
theorem go_lshl {x : Int64} {y : Int} (hd : decode (am_bytes mid) pc = .ok (.lshl, 1)) : Go d N S L xs mid pc lv (vI y :: vL x :: st) h (pc + 1) lv (vL (am_shl x y) :: st) h := go_st fun hx hb _ _ _ k => lv_lshl hx hb hd rfl k
theorem go_lshr {x : Int64} {y : Int} (hd : decode (am_bytes mid) pc = .ok (.lshr, 1)) : Go d N S L xs mid pc lv (vI y :: vL x :: st) h (pc + 1) lv (vL (am_shr x y) :: st) h := go_st fun hx hb _ _ _ k => lv_lshr hx hb hd rfl k
theorem go_lushr {x : Int64} {y : Int} (hd : decode (am_bytes mid) pc = .ok (.lushr, 1)) : Go d N S L xs mid pc lv (vI y :: vL x :: st) h (pc + 1) lv (vL (am_ushr x y) :: st) h := go_st fun hx hb _ _ _ k => lv_lushr hx hb hd rfl k
theorem go_i2l {x : Int} (hd : decode (am_bytes mid) pc = .ok (.i2l, 1)) : Go d N S L xs mid pc lv (vI x :: st) h (pc + 1) lv (vL (am_i2l x) :: st) h := go_st fun hx hb _ _ _ k => lv_i2l hx hb hd rfl k
theorem go_l2i {x : Int64} (hd : decode (am_bytes mid) pc = .ok (.l2i, 1)) : Go d N S L xs mid pc lv (vL x :: st) h (pc + 1) lv (vI (am_l2i x) :: st) h := go_st fun hx hb _ _ _ k => lv_l2i hx hb hd (Int32.ofInt_toInt _).symm k
theorem go_i2b {x : Int} (hd : decode (am_bytes mid) pc = .ok (.i2b, 1)) : Go d N S L xs mid pc lv (vI x :: st) h (pc + 1) lv (vI (am_i2b x) :: st) h := go_st fun hx hb _ _ _ k => lv_i2b hx hb hd (Int32.ofInt_toInt _).symm k
theorem go_lcmp {x y : Int64} (hd : decode (am_bytes mid) pc = .ok (.lcmp, 1)) : Go d N S L xs mid pc lv (vL y :: vL x :: st) h (pc + 1) lv (vI (am_cmp x y) :: st) h := go_st fun hx hb _ _ _ k => W.lcmp hx hb hd (by rw [am_cmp_c]; exact k)
theorem go_dup {v : am_V} (hd : decode (am_bytes mid) pc = .ok (.dup, 1)) (hv : am_cat v = 1) : Go d N S L xs mid pc lv (v :: st) h (pc + 1) lv (v :: v :: st) h := go_st fun hx hb _ _ _ k => lv_dup hx hb hd (by rw [am_c_cat]; exact hv) k
theorem go_pop {v : am_V} (hd : decode (am_bytes mid) pc = .ok (.pop, 1)) (hv : am_cat v = 1) : Go d N S L xs mid pc lv (v :: st) h (pc + 1) lv st h := go_st fun hx hb _ _ _ k => lv_pop hx hb hd (by rw [am_c_cat]; exact hv) k
theorem go_dup_x1 {v w : am_V} (hd : decode (am_bytes mid) pc = .ok (.dup_x1, 1)) (hv : am_cat v = 1) (hw : am_cat w = 1) : Go d N S L xs mid pc lv (v :: w :: st) h (pc + 1) lv (v :: w :: v :: st) h := go_st fun hx hb _ _ _ k => lv_dup_x1 hx hb hd (by rw [am_c_cat]; exact hv) (by rw [am_c_cat]; exact hw) k
theorem go_dup_x2 {v w u : am_V} (hd : decode (am_bytes mid) pc = .ok (.dup_x2, 1)) (hv : am_cat v = 1) (hw : am_cat w = 1) (hu : am_cat u = 1) : Go d N S L xs mid pc lv (v :: w :: u :: st) h (pc + 1) lv (v :: w :: u :: v :: st) h := go_st fun hx hb _ _ _ k => lv_dup_x2 hx hb hd (by rw [am_c_cat]; exact hv) (by rw [am_c_cat]; exact hw) (by rw [am_c_cat]; exact hu) k
theorem go_dup2_11 {v w : am_V} (hd : decode (am_bytes mid) pc = .ok (.dup2, 1)) (hv : am_cat v = 1) (hw : am_cat w = 1) : Go d N S L xs mid pc lv (v :: w :: st) h (pc + 1) lv (v :: w :: v :: w :: st) h := go_st fun hx hb _ _ _ k => lv_dup2_11 hx hb hd (by rw [am_c_cat]; exact hv) (by rw [am_c_cat]; exact hw) k
theorem go_dup2_2 {x : Int64} (hd : decode (am_bytes mid) pc = .ok (.dup2, 1)) : Go d N S L xs mid pc lv (vL x :: st) h (pc + 1) lv (vL x :: vL x :: st) h := go_st fun hx hb _ _ _ k => lv_dup2_2 hx hb hd rfl k
theorem go_goto {off : Int} {tgt : Nat} (hd : decode (am_bytes mid) pc = .ok (.goto off, 3)) (ht : (pc : Int) + off = (tgt : Int)) : Go d N S L xs mid pc lv st h tgt lv st h := go_st fun hx hb _ _ _ k => lv_goto hx hb hd ht k
/-! branches -/
def am_cond (c : Jvm.ClassFile.Cond) (x y : Int) : Prop := match c with
  | .eq => x = y
  | .ne => ¬ x = y
  | .lt => x < y
  | .ge => y ≤ x
  | .gt => y < x
  | .le => x ≤ y
theorem go_if {c : Jvm.ClassFile.Cond} {x off : Int} {tgt pc' : Nat} (hd : decode (am_bytes mid) pc = .ok (.ifCond c off, 3)) (ht : (pc : Int) + off = (tgt : Int)) (hx : am_in x) (hc : (am_cond c x 0 ∧ pc' = tgt) ∨ (¬ am_cond c x 0 ∧ pc' = pc + 3)) : Go d N S L xs mid pc lv (vI x :: st) h pc' lv st h := by
  have e := am_eqI hx am_in_0
  have e1 := am_ltI hx am_in_0
  have e2 := am_leI am_in_0 hx
  have e3 := am_ltI am_in_0 hx
  have e4 := am_leI hx am_in_0
  rw [← am_0] at e e1 e2 e3 e4
  refine go_st fun hx hb _ _ _ k => ?_
  cases c
  · refine lv_if_eq hx hb hd ht (fun q => ?_) (fun q => ?_)
    · rcases hc with ⟨-, rfl⟩ | ⟨h1, rfl⟩
      · exact k
      · exact absurd (e.mp q) h1
    · rcases hc with ⟨h1, rfl⟩ | ⟨-, rfl⟩
      · exact absurd (e.mpr h1) q
      · exact k
  · refine lv_if_ne hx hb hd ht (fun q => ?_) (fun q => ?_)
    · rcases hc with ⟨-, rfl⟩ | ⟨h1, rfl⟩
      · exact k
      · exact absurd (fun y => q (e.mpr y)) h1
    · rcases hc with ⟨h1, rfl⟩ | ⟨-, rfl⟩
      · exact absurd (e.mp q) h1
      · exact k
  · refine lv_if_lt hx hb hd ht (fun q => ?_) (fun q => ?_)
    · rcases hc with ⟨-, rfl⟩ | ⟨h1, rfl⟩
      · exact k
      · exact absurd (e1.mp q) h1
    · rcases hc with ⟨h1, rfl⟩ | ⟨-, rfl⟩
      · exact absurd (e1.mpr h1) q
      · exact k
  · refine lv_if_ge hx hb hd ht (fun q => ?_) (fun q => ?_)
    · rcases hc with ⟨-, rfl⟩ | ⟨h1, rfl⟩
      · exact k
      · exact absurd (e2.mp q) h1
    · rcases hc with ⟨h1, rfl⟩ | ⟨-, rfl⟩
      · exact absurd (e2.mpr h1) q
      · exact k
  · refine lv_if_gt hx hb hd ht (fun q => ?_) (fun q => ?_)
    · rcases hc with ⟨-, rfl⟩ | ⟨h1, rfl⟩
      · exact k
      · exact absurd (e3.mp q) h1
    · rcases hc with ⟨h1, rfl⟩ | ⟨-, rfl⟩
      · exact absurd (e3.mpr h1) q
      · exact k
  · refine lv_if_le hx hb hd ht (fun q => ?_) (fun q => ?_)
    · rcases hc with ⟨-, rfl⟩ | ⟨h1, rfl⟩
      · exact k
      · exact absurd (e4.mp q) h1
    · rcases hc with ⟨h1, rfl⟩ | ⟨-, rfl⟩
      · exact absurd (e4.mpr h1) q
      · exact k
theorem go_icmp {c : Jvm.ClassFile.Cond} {x y off : Int} {tgt pc' : Nat} (hd : decode (am_bytes mid) pc = .ok (.if_icmp c off, 3)) (ht : (pc : Int) + off = (tgt : Int)) (hx : am_in x) (hy : am_in y) (hc : (am_cond c x y ∧ pc' = tgt) ∨ (¬ am_cond c x y ∧ pc' = pc + 3)) : Go d N S L xs mid pc lv (vI y :: vI x :: st) h pc' lv st h := by
  have e := am_eqI hx hy
  have e1 := am_ltI hx hy
  have e2 := am_leI hy hx
  have e3 := am_ltI hy hx
  have e4 := am_leI hx hy
  refine go_st fun hx hb _ _ _ k => ?_
  cases c
  · refine lv_icmp_eq hx hb hd ht (fun q => ?_) (fun q => ?_)
    · rcases hc with ⟨-, rfl⟩ | ⟨h1, rfl⟩
      · exact k
      · exact absurd (e.mp q) h1
    · rcases hc with ⟨h1, rfl⟩ | ⟨-, rfl⟩
      · exact absurd (e.mpr h1) q
      · exact k
  · refine lv_icmp_ne hx hb hd ht (fun q => ?_) (fun q => ?_)
    · rcases hc with ⟨-, rfl⟩ | ⟨h1, rfl⟩
      · exact k
      · exact absurd (fun y => q (e.mpr y)) h1
    · rcases hc with ⟨h1, rfl⟩ | ⟨-, rfl⟩
      · exact absurd (e.mp q) h1
      · exact k
  · refine lv_icmp_lt hx hb hd ht (fun q => ?_) (fun q => ?_)
    · rcases hc with ⟨-, rfl⟩ | ⟨h1, rfl⟩
      · exact k
      · exact absurd (e1.mp q) h1
    · rcases hc with ⟨h1, rfl⟩ | ⟨-, rfl⟩
      · exact absurd (e1.mpr h1) q
      · exact k
  · refine lv_icmp_ge hx hb hd ht (fun q => ?_) (fun q => ?_)
    · rcases hc with ⟨-, rfl⟩ | ⟨h1, rfl⟩
      · exact k
      · exact absurd (e2.mp q) h1
    · rcases hc with ⟨h1, rfl⟩ | ⟨-, rfl⟩
      · exact absurd (e2.mpr h1) q
      · exact k
  · refine lv_icmp_gt hx hb hd ht (fun q => ?_) (fun q => ?_)
    · rcases hc with ⟨-, rfl⟩ | ⟨h1, rfl⟩
      · exact k
      · exact absurd (e3.mp q) h1
    · rcases hc with ⟨h1, rfl⟩ | ⟨-, rfl⟩
      · exact absurd (e3.mpr h1) q
      · exact k
  · refine lv_icmp_le hx hb hd ht (fun q => ?_) (fun q => ?_)
    · rcases hc with ⟨-, rfl⟩ | ⟨h1, rfl⟩
      · exact k
      · exact absurd (e4.mp q) h1
    · rcases hc with ⟨h1, rfl⟩ | ⟨-, rfl⟩
      · exact absurd (e4.mpr h1) q
      · exact k
theorem go_tabIn {dflt lo hi x off : Int} {offs : Array Int} {len tgt : Nat} (hd : decode (am_bytes mid) pc = .ok (.tableswitch dflt lo hi offs, len)) (hx : am_in x) (h1 : lo ≤ x) (h2 : x ≤ hi) (ho : offs[(x - lo).toNat]? = some off) (ht : (pc : Int) + off = (tgt : Int)) : Go d N S L xs mid pc lv (vI x :: st) h tgt lv st h :=
  go_st fun h0 hb _ _ _ k => lv_tableIn (x := Int32.ofInt x) h0 hb hd (by rw [am_in_toInt hx]; omega) (by rw [am_in_toInt hx]; omega) (by rw [am_in_toInt hx]; exact ho) ht k
theorem go_tabOut {dflt lo hi x : Int} {offs : Array Int} {len tgt : Nat} (hd : decode (am_bytes mid) pc = .ok (.tableswitch dflt lo hi offs, len)) (hx : am_in x) (h1 : x < lo ∨ hi < x) (ht : (pc : Int) + dflt = (tgt : Int)) : Go d N S L xs mid pc lv (vI x :: st) h tgt lv st h :=
  go_st fun h0 hb _ _ _ k => lv_tableOut (x := Int32.ofInt x) h0 hb hd (by rw [am_in_toInt hx]; exact h1) ht k
theorem go_look {dflt x off : Int} {ps : Array (Int × Int)} {len tgt : Nat} (hd : decode (am_bytes mid) pc = .ok (.lookupswitch dflt ps, len)) (hx : am_in x) (hp : (ps.toList.zip (ps.toList.drop 1)).all (fun (a, next) => a.1 < next.1) = true) (ho : Op.lookupswitch.offset ps.toList dflt x = off) (ht : (pc : Int) + off = (tgt : Int)) : Go d N S L xs mid pc lv (vI x :: st) h tgt lv st h :=
  go_st fun h0 hb _ _ _ k => lv_lookup (x := Int32.ofInt x) h0 hb hd hp (by rw [am_in_toInt hx]; exact ho) ht k
end GO
