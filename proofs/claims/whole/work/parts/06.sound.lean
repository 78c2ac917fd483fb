/-! what the heap's operations must keep -/
def am_Law {Hp : Type} (O : am_O Hp) (toC : Hp → am_H) : Prop :=
  (∀ (h : Hp) (ci r k : Nat) (v : am_V), O.1 h ci r k = some v → ∃ fs, (toC h)[r]? = some (.inr (ci, fs)) ∧ fs[k]? = some v) ∧
  (∀ (h : Hp) (ci r k : Nat) (v : am_V) (h' : Hp), O.2.1 h ci r k v = some h' → ∃ fs, (toC h)[r]? = some (.inr (ci, fs)) ∧ k < fs.length ∧ toC h' = (toC h).set r (.inr (ci, fs.set k v))) ∧
  (∀ (h : Hp) (r : Nat) (a : am_A), O.2.2.1 h r = some a → (toC h)[r]? = some (.inl a)) ∧
  (∀ (h : Hp) (r : Nat) (ty : FieldType) (n : Nat) (F F' : am_F) (h' : Hp), O.2.2.1 h r = some (ty, n, F) → O.2.2.2.1 h r F' = some h' → toC h' = (toC h).set r (.inl (ty, n, F'))) ∧
  (∀ (h : Hp) (N S ci : Nat) (q : Nat × Hp × Prop), O.2.2.2.2.1 h N S ci = some q → q.2.2 → q.1 = (toC h).length ∧ toC q.2.1 = toC h ++ [.inr (ci, am_dfl ci)] ∧ (toC h).length + 1 ≤ N ∧ am_sl (toC h) + (am_dfl ci).length ≤ S) ∧
  (∀ (h : Hp) (N S : Nat) (ty : FieldType) (n : Int) (F : am_F) (q : Nat × Hp × Prop), O.2.2.2.2.2.1 h N S ty n F = some q → q.2.2 → q.1 = (toC h).length ∧ toC q.2.1 = toC h ++ [.inl (ty, n.toNat, F)] ∧ (0 ≤ n ∧ n < 10000) ∧ (toC h).length + 1 ≤ N ∧ am_sl (toC h) + n.toNat ≤ S) ∧
  (∀ (h : Hp) (r ci : Nat), O.2.2.2.2.2.2 h r = some ci → ∃ fs, (toC h)[r]? = some (.inr (ci, fs)))
/-- what an instruction's own numbers must keep -/
def am_lk (mid : am_M) (pc nx : Nat) (ins : Instr) (u v : Nat) : Prop := match ins with
  | .bipush n => -128 ≤ n ∧ n ≤ 127
  | .sipush n => -32768 ≤ n ∧ n ≤ 32767
  | .ldc2_w i => Jvm.Cond.constantLong (am_own mid) i (Int64.ofNat u) ∈ am_TS
  | .goto off => (pc : Int) + off = (u : Int)
  | .ifCond _ off => (pc : Int) + off = (u : Int)
  | .if_icmp _ off => (pc : Int) + off = (u : Int)
  | .lookupswitch _ ps => (ps.toList.zip (ps.toList.drop 1)).all (fun (a, next) => a.1 < next.1) = true
  | .getfield idx => ∃ C T nF, am_cl[u]? = some (C, T, nF) ∧ v < nF ∧ am_fw (am_own mid) idx C T v
  | .putfield idx => ∃ C T nF, am_cl[u]? = some (C, T, nF) ∧ v < nF ∧ am_fw (am_own mid) idx C T v ∧ ((T v).2.2.2 = true → am_init mid = true ∧ C = am_own mid)
  | .new idx => ∃ C T nF, am_cl[u]? = some (C, T, nF) ∧ Jvm.Cond.classLink (am_own mid) idx C ∈ am_TS
  | .invokespecial idx => v = 1 → Jvm.Cond.methodLink (am_own mid) idx objectInit ∈ am_TS
  | .invokestatic idx => (v = 1 → Jvm.Cond.methodLink (am_own mid) idx arraycopyName ∈ am_TS) ∧ (v = 2 → Jvm.Cond.methodLink (am_own mid) idx Lib.Math.max.name ∈ am_TS)
  | _ => True
section SOUND
variable {Hp : Type} {O : am_O Hp} {toC : Hp → am_H} {d N S L : Nat} {xs : Nat → Int} {mid : am_M} {ch nx u v pc pc' : Nat} {lv lv' : am_L} {st st' : List am_V} {h h' : Hp} {P : Option Prop} {ins : Instr}
theorem go_copy {idx r t n0 n1 : Nat} {hh : am_H} {f g : Nat → Int} {n dp sp : Int} (hd : decode (am_bytes mid) pc = .ok (.invokestatic idx, 3)) (hw : Jvm.Cond.methodLink (am_own mid) idx arraycopyName ∈ am_TS) (hr : hh[r]? = some (.inl (.int, n0, .inl f))) (ht : hh[t]? = some (.inl (.int, n1, .inl g))) (hq : (0 ≤ sp ∧ 0 ≤ dp ∧ 0 ≤ n ∧ sp + n ≤ n0 ∧ dp + n ≤ n1 ∧ (n0 : Int) < 2147483648 ∧ (n1 : Int) < 2147483648) ∧ am_sum st ≤ 8) (hlv : lv.length = am_maxL mid) : Go d N S L xs mid pc lv (vI n :: vI dp :: vR (t + 1) :: vI sp :: vR (r + 1) :: st) hh (pc + 3) lv st (hh.set t (.inl (.int, n1, .inl (am_cpy f g sp.toNat dp.toNat n.toNat)))) := by
  intro p l e R s m args below meth c Q b z n0' s0 tA D X kk H locs ls cells slots hl hP hS hc1 hs
  obtain ⟨hx, hb, hml, hown, hts, hK, hz, hini, hf, hlo, hNN, hSS, hscr⟩ := X
  obtain ⟨⟨q1, q2, q3, q4, q5, q6, q7⟩, q8⟩ := hq
  have hsum : ((st.map (am_c b z)).map fun v => v.category).sum ≤ 8 := by
    rw [List.map_map]
    have e : (fun v => Value.category v) ∘ am_c b z = am_cat := funext fun v => am_c_cat b z v
    rw [e]; exact q8
  have h40 : 40 ≤ R.locals := Nat.le_trans (Nat.le_trans am_lw40 (Nat.le_mul_of_pos_right _ (Nat.succ_pos d))) hlo
  have e1 := am_clamp q1 (show sp < 2147483648 by omega)
  have e2 := am_clamp q2 (show dp < 2147483648 by omega)
  have e3 := am_clamp q3 (show n < 2147483648 by omega)
  refine va_copyi (ty := .int) hx hb (by rw [hml, ← hlv]; exact hl.2.1.symm) hown (hts _ hw) (hts _ am_TS_c1) (hts _ am_TS_c2) (hts _ am_TS_c3) hK hP (am_cw_D b z tA hh) hS r t 0 0 (am_cw_at hr) (am_cw_at ht) rfl rfl rfl (am_nonneg q1 (by omega)) (am_nonneg q2 (by omega)) (am_nonneg q3 (by omega)) (by rw [e1, e3]; omega) (by rw [e2, e3]; omega) (fun _ _ => rfl) (by omega) ?_ hd (fun H1 locs1 hP1 _ hS1 => ?_)
  · have : nativeFrameWords "java/lang/System" "arraycopy" 5 + 11 ≤ 30 := by decide
    omega
  · rw [e1, e2, e3] at hP1
    refine kk H1 locs1 ls cells slots hl ?_ hS1 (by rw [List.length_set]; exact hc1) (am_sl_set3 hh t _ _ ht (by rfl) hs)
    rw [← am_cw_set0]
    show va_P D am_cl ((am_cw b z tA 0 hh).set t (z + t, .inl (tA .int, n1, .inl (fun j => Int32.ofInt (am_cpy f g sp.toNat dp.toNat n.toNat j))))) H1
    rw [am_cpy_i]
    exact hP1
theorem go_max {idx : Nat} {hh : am_H} {x y : Int} (hd : decode (am_bytes mid) pc = .ok (.invokestatic idx, 3)) (hw : Jvm.Cond.methodLink (am_own mid) idx Lib.Math.max.name ∈ am_TS) (hq : am_in x ∧ am_in y ∧ am_sum st ≤ 8) (hlv : lv.length = am_maxL mid) : Go d N S L xs mid pc lv (vI y :: vI x :: st) hh (pc + 3) lv (vI (am_max x y) :: st) hh := by
  intro p l e R s m args below meth c Q b z n0' s0 tA D X kk H locs ls cells slots hl hP hS hc1 hs
  obtain ⟨hx, hb, hml, hown, hts, hK, hz, hini, hf, hlo, hNN, hSS, hscr⟩ := X
  have hsum : ((st.map (am_c b z)).map fun v => v.category).sum ≤ 8 := by
    rw [List.map_map]
    have e : (fun v => Value.category v) ∘ am_c b z = am_cat := funext fun v => am_c_cat b z v
    rw [e]; exact hq.2.2
  have h40 : 40 ≤ R.locals := Nat.le_trans (Nat.le_trans am_lw40 (Nat.le_mul_of_pos_right _ (Nat.succ_pos d))) hlo
  refine va_mmax (x := Int32.ofInt x) (y := Int32.ofInt y) hx hb (by rw [hml, ← hlv]; exact hl.2.1.symm) hown (hts _ hw) (hts _ am_TS_m1) (hts _ ct_ini_java_lang_Math) (hts _ am_TS_m2) (by omega) (by omega) (by omega) (by omega) hd ?_
  have e : (if Int32.ofInt x < Int32.ofInt y then Int32.ofInt y else Int32.ofInt x) = Int32.ofInt (am_max x y) := by
    unfold am_max
    by_cases h1 : x < y
    · rw [if_pos h1, if_pos ((am_ltI hq.1 hq.2.1).mpr h1)]
    · rw [if_neg h1, if_neg (fun q => h1 ((am_ltI hq.1 hq.2.1).mp q))]
  rw [e]
  exact kk H locs ls cells slots hl hP hS hc1 hs
set_option maxHeartbeats 4000000 in
theorem am_step_ok (hO : am_Law O toC) (hlv : lv.length = am_maxL mid) (hd0 : decode (am_bytes mid) pc = .ok (ins, nx - pc)) (hnx : am_len ins = 0 ∨ nx = pc + am_len ins) (hk : am_lk mid pc nx ins u v) (hs : am_step O N S L xs mid ch ins nx u v pc lv st h = some (pc', lv', st', h', P)) (hP : ∀ q, P = some q → q) : Go d N S L xs mid pc lv st (toC h) pc' lv' st' (toC h') ∧ lv'.length = am_maxL mid := by
  have hd' : am_len ins ≠ 0 → decode (am_bytes mid) pc = .ok (ins, am_len ins) ∧ nx = pc + am_len ins := by
    intro q
    rcases hnx with h1 | h1
    · exact absurd h1 q
    · rw [h1, Nat.add_sub_cancel_left] at hd0
      exact ⟨hd0, h1⟩
  have hs1 : ∀ i w, (am_st1 lv i w).length = am_maxL mid := fun i w => by simp [am_st1, am_clr_len, hlv]
  have hs2 : ∀ i w, (am_st2 lv i w).length = am_maxL mid := fun i w => by simp [am_st2, am_clr_len, hlv]
  obtain ⟨O1, O2, O3, O4, O5, O6, O7⟩ := hO
  cases ins with
  | iconst n => obtain ⟨hd, rfl⟩ := hd' (Nat.succ_ne_zero _); cases hs; exact ⟨go_iconst hd, hlv⟩
  | bipush n => obtain ⟨hd, rfl⟩ := hd' (Nat.succ_ne_zero _); cases hs; exact ⟨go_bipush hd hk.1 hk.2, hlv⟩
  | sipush n => obtain ⟨hd, rfl⟩ := hd' (Nat.succ_ne_zero _); cases hs; exact ⟨go_sipush hd hk.1 hk.2, hlv⟩
  | lconst n => obtain ⟨hd, rfl⟩ := hd' (Nat.succ_ne_zero _); cases hs; exact ⟨go_lconst hd, hlv⟩
  | ldc2_w i => obtain ⟨hd, rfl⟩ := hd' (Nat.succ_ne_zero _); cases hs; exact ⟨go_ldc2 hd hk, hlv⟩
  | iload i => obtain ⟨hd, rfl⟩ := hd' (Nat.succ_ne_zero _); obtain ⟨x, h1, h2⟩ := am_ldI_inv hs; cases h2; exact ⟨go_iload hd h1, hlv⟩
  | iload_n i => obtain ⟨hd, rfl⟩ := hd' (Nat.succ_ne_zero _); obtain ⟨x, h1, h2⟩ := am_ldI_inv hs; cases h2; exact ⟨go_iload_n hd h1, hlv⟩
  | lload i => obtain ⟨hd, rfl⟩ := hd' (Nat.succ_ne_zero _); obtain ⟨x, h1, h2⟩ := am_ldL_inv hs; cases h2; exact ⟨go_lload hd h1, hlv⟩
  | lload_n i => obtain ⟨hd, rfl⟩ := hd' (Nat.succ_ne_zero _); obtain ⟨x, h1, h2⟩ := am_ldL_inv hs; cases h2; exact ⟨go_lload_n hd h1, hlv⟩
  | aload i => obtain ⟨hd, rfl⟩ := hd' (Nat.succ_ne_zero _); obtain ⟨x, h1, h2⟩ := am_ldR_inv hs; cases h2; exact ⟨go_aload hd h1, hlv⟩
  | aload_n i => obtain ⟨hd, rfl⟩ := hd' (Nat.succ_ne_zero _); obtain ⟨x, h1, h2⟩ := am_ldR_inv hs; cases h2; exact ⟨go_aload_n hd h1, hlv⟩
  | istore i => obtain ⟨hd, rfl⟩ := hd' (Nat.succ_ne_zero _); obtain ⟨x, r, rfl, h1⟩ := am_i1_inv hs; obtain ⟨h2, h3⟩ := am_has_inv h1; cases h3; exact ⟨go_istore hd h2, hs1 _ _⟩
  | istore_n i => obtain ⟨hd, rfl⟩ := hd' (Nat.succ_ne_zero _); obtain ⟨x, r, rfl, h1⟩ := am_i1_inv hs; obtain ⟨h2, h3⟩ := am_has_inv h1; cases h3; exact ⟨go_istore_n hd h2, hs1 _ _⟩
  | lstore i => obtain ⟨hd, rfl⟩ := hd' (Nat.succ_ne_zero _); obtain ⟨x, r, rfl, h1⟩ := am_l1_inv hs; obtain ⟨h2, h3⟩ := am_has_inv h1; cases h3; exact ⟨go_lstore hd h2, hs2 _ _⟩
  | lstore_n i => obtain ⟨hd, rfl⟩ := hd' (Nat.succ_ne_zero _); obtain ⟨x, r, rfl, h1⟩ := am_l1_inv hs; obtain ⟨h2, h3⟩ := am_has_inv h1; cases h3; exact ⟨go_lstore_n hd h2, hs2 _ _⟩
  | astore i => obtain ⟨hd, rfl⟩ := hd' (Nat.succ_ne_zero _); obtain ⟨x, r, rfl, h1⟩ := am_r1_inv hs; obtain ⟨h2, h3⟩ := am_has_inv h1; cases h3; exact ⟨go_astore hd h2, hs1 _ _⟩
  | astore_n i => obtain ⟨hd, rfl⟩ := hd' (Nat.succ_ne_zero _); obtain ⟨x, r, rfl, h1⟩ := am_r1_inv hs; obtain ⟨h2, h3⟩ := am_has_inv h1; cases h3; exact ⟨go_astore_n hd h2, hs1 _ _⟩
  | iinc i n => obtain ⟨hd, rfl⟩ := hd' (Nat.succ_ne_zero _); obtain ⟨x, h1, h2⟩ := am_ldI_inv hs; cases h2; exact ⟨go_iinc hd h1, hs1 _ _⟩
  | iadd => obtain ⟨hd, rfl⟩ := hd' (Nat.succ_ne_zero _); obtain ⟨x, y, r, rfl, h1⟩ := am_i2_inv hs; cases h1; exact ⟨go_iadd hd, hlv⟩
  | isub => obtain ⟨hd, rfl⟩ := hd' (Nat.succ_ne_zero _); obtain ⟨x, y, r, rfl, h1⟩ := am_i2_inv hs; cases h1; exact ⟨go_isub hd, hlv⟩
  | imul => obtain ⟨hd, rfl⟩ := hd' (Nat.succ_ne_zero _); obtain ⟨x, y, r, rfl, h1⟩ := am_i2_inv hs; cases h1; exact ⟨go_imul hd, hlv⟩
  | idiv => obtain ⟨hd, rfl⟩ := hd' (Nat.succ_ne_zero _); obtain ⟨x, y, r, rfl, h1⟩ := am_i2_inv hs; cases h1; exact ⟨go_idiv hd (hP _ rfl), hlv⟩
  | irem => obtain ⟨hd, rfl⟩ := hd' (Nat.succ_ne_zero _); obtain ⟨x, y, r, rfl, h1⟩ := am_i2_inv hs; cases h1; exact ⟨go_irem hd (hP _ rfl), hlv⟩
  | iand => obtain ⟨hd, rfl⟩ := hd' (Nat.succ_ne_zero _); obtain ⟨x, y, r, rfl, h1⟩ := am_i2_inv hs; cases h1; exact ⟨go_iand hd, hlv⟩
  | ladd => obtain ⟨hd, rfl⟩ := hd' (Nat.succ_ne_zero _); obtain ⟨x, y, r, rfl, h1⟩ := am_l2_inv hs; cases h1; exact ⟨go_ladd hd, hlv⟩
  | lsub => obtain ⟨hd, rfl⟩ := hd' (Nat.succ_ne_zero _); obtain ⟨x, y, r, rfl, h1⟩ := am_l2_inv hs; cases h1; exact ⟨go_lsub hd, hlv⟩
  | lmul => obtain ⟨hd, rfl⟩ := hd' (Nat.succ_ne_zero _); obtain ⟨x, y, r, rfl, h1⟩ := am_l2_inv hs; cases h1; exact ⟨go_lmul hd, hlv⟩
  | land => obtain ⟨hd, rfl⟩ := hd' (Nat.succ_ne_zero _); obtain ⟨x, y, r, rfl, h1⟩ := am_l2_inv hs; cases h1; exact ⟨go_land hd, hlv⟩
  | lor => obtain ⟨hd, rfl⟩ := hd' (Nat.succ_ne_zero _); obtain ⟨x, y, r, rfl, h1⟩ := am_l2_inv hs; cases h1; exact ⟨go_lor hd, hlv⟩
  | lxor => obtain ⟨hd, rfl⟩ := hd' (Nat.succ_ne_zero _); obtain ⟨x, y, r, rfl, h1⟩ := am_l2_inv hs; cases h1; exact ⟨go_lxor hd, hlv⟩
  | lshl => obtain ⟨hd, rfl⟩ := hd' (Nat.succ_ne_zero _); obtain ⟨x, y, r, rfl, h1⟩ := am_li_inv hs; cases h1; exact ⟨go_lshl hd, hlv⟩
  | lshr => obtain ⟨hd, rfl⟩ := hd' (Nat.succ_ne_zero _); obtain ⟨x, y, r, rfl, h1⟩ := am_li_inv hs; cases h1; exact ⟨go_lshr hd, hlv⟩
  | lushr => obtain ⟨hd, rfl⟩ := hd' (Nat.succ_ne_zero _); obtain ⟨x, y, r, rfl, h1⟩ := am_li_inv hs; cases h1; exact ⟨go_lushr hd, hlv⟩
  | i2l => obtain ⟨hd, rfl⟩ := hd' (Nat.succ_ne_zero _); obtain ⟨x, r, rfl, h1⟩ := am_i1_inv hs; cases h1; exact ⟨go_i2l hd, hlv⟩
  | l2i => obtain ⟨hd, rfl⟩ := hd' (Nat.succ_ne_zero _); obtain ⟨x, r, rfl, h1⟩ := am_l1_inv hs; cases h1; exact ⟨go_l2i hd, hlv⟩
  | i2b => obtain ⟨hd, rfl⟩ := hd' (Nat.succ_ne_zero _); obtain ⟨x, r, rfl, h1⟩ := am_i1_inv hs; cases h1; exact ⟨go_i2b hd, hlv⟩
  | lcmp => obtain ⟨hd, rfl⟩ := hd' (Nat.succ_ne_zero _); obtain ⟨x, y, r, rfl, h1⟩ := am_l2_inv hs; cases h1; exact ⟨go_lcmp hd, hlv⟩
  | dup => obtain ⟨hd, rfl⟩ := hd' (Nat.succ_ne_zero _); obtain ⟨a, r, rfl, h1⟩ := am_s1_inv hs; obtain ⟨h2, h3⟩ := am_g1_inv h1; cases h3; exact ⟨go_dup hd h2, hlv⟩
  | pop => obtain ⟨hd, rfl⟩ := hd' (Nat.succ_ne_zero _); obtain ⟨a, r, rfl, h1⟩ := am_s1_inv hs; obtain ⟨h2, h3⟩ := am_g1_inv h1; cases h3; exact ⟨go_pop hd h2, hlv⟩
  | dup_x1 => obtain ⟨hd, rfl⟩ := hd' (Nat.succ_ne_zero _); obtain ⟨a, b, r, rfl, h1⟩ := am_s2_inv hs; obtain ⟨h2, h3⟩ := am_g1_inv h1; obtain ⟨h4, h5⟩ := am_g1_inv h3; cases h5; exact ⟨go_dup_x1 hd h2 h4, hlv⟩
  | dup_x2 => obtain ⟨hd, rfl⟩ := hd' (Nat.succ_ne_zero _); obtain ⟨a, b, e, r, rfl, h1⟩ := am_s3_inv hs; obtain ⟨h2, h3⟩ := am_g1_inv h1; obtain ⟨h4, h5⟩ := am_g1_inv h3; obtain ⟨h6, h7⟩ := am_g1_inv h5; cases h7; exact ⟨go_dup_x2 hd h2 h4 h6, hlv⟩
  | dup2 =>
    obtain ⟨hd, rfl⟩ := hd' (Nat.succ_ne_zero _)
    have hs : am_d2 _ lv st h = _ := hs
    unfold am_d2 at hs
    split at hs
    · cases hs; exact ⟨go_dup2_2 hd, hlv⟩
    · obtain ⟨h2, h3⟩ := am_g1_inv hs; obtain ⟨h4, h5⟩ := am_g1_inv h3; cases h5; exact ⟨go_dup2_11 hd h2 h4, hlv⟩
    · cases hs
  | goto off => obtain ⟨hd, -⟩ := hd' (Nat.succ_ne_zero _); cases hs; exact ⟨go_goto hd hk, hlv⟩
  | ifCond c off =>
    obtain ⟨hd, rfl⟩ := hd' (Nat.succ_ne_zero _)
    obtain ⟨x, r, rfl, h1⟩ := am_i1_inv hs
    have key : ∀ (cn : Prop), (cn → ¬ am_cond c x 0) → some (am_br ch (pc + 3) u lv r h (-2147483648 ≤ x ∧ x < 2147483648) (am_cond c x 0) cn) = some (pc', lv', st', h', P) → Go d N S L xs mid pc lv (vI x :: r) (toC h) pc' lv' st' (toC h') ∧ lv'.length = am_maxL mid := by
      intro cn hcn h1
      cases ch with
      | zero => cases h1; have q := hP _ rfl; exact ⟨go_if hd hk q.1 (Or.inr ⟨hcn q.2, rfl⟩), hlv⟩
      | succ ch => cases h1; have q := hP _ rfl; exact ⟨go_if hd hk q.1 (Or.inl ⟨q.2, rfl⟩), hlv⟩
    cases c
    · exact key _ id h1
    · exact key (x = 0) (fun q y => y q) h1
    · exact key (0 ≤ x) (fun q y => by have y : x < 0 := y; omega) h1
    · exact key (x < 0) (fun q y => by have y : 0 ≤ x := y; omega) h1
    · exact key (x ≤ 0) (fun q y => by have y : 0 < x := y; omega) h1
    · exact key (0 < x) (fun q y => by have y : x ≤ 0 := y; omega) h1
  | if_icmp c off =>
    obtain ⟨hd, rfl⟩ := hd' (Nat.succ_ne_zero _)
    obtain ⟨x, y, r, rfl, h1⟩ := am_i2_inv hs
    have key : ∀ (cn : Prop), (cn → ¬ am_cond c x y) → some (am_br ch (pc + 3) u lv r h ((-2147483648 ≤ x ∧ x < 2147483648) ∧ (-2147483648 ≤ y ∧ y < 2147483648)) (am_cond c x y) cn) = some (pc', lv', st', h', P) → Go d N S L xs mid pc lv (vI y :: vI x :: r) (toC h) pc' lv' st' (toC h') ∧ lv'.length = am_maxL mid := by
      intro cn hcn h1
      cases ch with
      | zero => cases h1; have q := hP _ rfl; exact ⟨go_icmp hd hk q.1.1 q.1.2 (Or.inr ⟨hcn q.2, rfl⟩), hlv⟩
      | succ ch => cases h1; have q := hP _ rfl; exact ⟨go_icmp hd hk q.1.1 q.1.2 (Or.inl ⟨q.2, rfl⟩), hlv⟩
    cases c
    · exact key _ id h1
    · exact key (x = y) (fun q z => z q) h1
    · exact key (y ≤ x) (fun q z => by have z : x < y := z; omega) h1
    · exact key (x < y) (fun q z => by have z : y ≤ x := z; omega) h1
    · exact key (x ≤ y) (fun q z => by have z : y < x := z; omega) h1
    · exact key (y < x) (fun q z => by have z : x ≤ y := z; omega) h1
  | tableswitch dflt lo hi offs =>
    obtain ⟨x, r, rfl, h1⟩ := am_i1_inv hs
    cases ho : offs[ch]? with
    | none =>
      rw [ho] at h1
      cases h1
      have q := hP _ rfl
      exact ⟨go_tabOut hd0 q.1 q.2.1 (Int.toNat_of_nonneg q.2.2).symm, hlv⟩
    | some off =>
      rw [ho] at h1
      cases h1
      have q := hP _ rfl
      obtain ⟨q1, q2, q3, q4⟩ := q
      exact ⟨go_tabIn (off := off) hd0 q1 (by omega) q3 (by rw [show (x - lo).toNat = ch by omega]; exact ho) (Int.toNat_of_nonneg q4).symm, hlv⟩
  | lookupswitch dflt ps =>
    obtain ⟨x, r, rfl, h1⟩ := am_i1_inv hs
    cases h1
    have q := hP _ rfl
    exact ⟨go_look hd0 q.1 hk (am_lk_off q.2.1) (Int.toNat_of_nonneg q.2.2).symm, hlv⟩
  | getfield idx =>
    obtain ⟨hd, rfl⟩ := hd' (Nat.succ_ne_zero _)
    obtain ⟨r, rest, rfl, h1⟩ := am_r1_inv hs
    obtain ⟨C, T, nF, k1, k2, k3⟩ := hk
    cases r with
    | zero => cases h1
    | succ r =>
      obtain ⟨x, h2, h3⟩ := Option.map_eq_some_iff.mp (show (O.1 h u r v).map _ = _ from h1)
      cases h3
      obtain ⟨fs, h4, h5⟩ := O1 _ _ _ _ _ h2
      exact ⟨go_get hd k1 k2 k3 h4 h5, hlv⟩
  | putfield idx =>
    obtain ⟨hd, rfl⟩ := hd' (Nat.succ_ne_zero _)
    obtain ⟨r, x, rest, rfl, h1⟩ := am_vr_inv hs
    obtain ⟨C, T, nF, k1, k2, k3, k4⟩ := hk
    cases r with
    | zero => cases h1
    | succ r =>
      have h1 : am_wrF O _ u v lv h (r + 1) x rest = _ := h1
      unfold am_wrF at h1
      dsimp only at h1
      split at h1
      · next P1 hf =>
        obtain ⟨h6, h2, h3⟩ := Option.map_eq_some_iff.mp h1
        cases h3
        obtain ⟨fs, h4, h5, h7⟩ := O2 _ _ _ _ _ _ h2
        rw [h7]
        exact ⟨go_put hd k1 k2 k3 k4 h4 h5 (am_fitO_ok hf hP), hlv⟩
      · cases h1
  | iaload =>
    obtain ⟨hd, rfl⟩ := hd' (Nat.succ_ne_zero _)
    obtain ⟨r, i, rest, rfl, h1⟩ := am_ir_inv hs
    unfold am_rdI at h1
    split at h1
    · split at h1
      · next hm => cases h1; exact ⟨go_sald hm hd (hP _ rfl), hlv⟩
      · cases h1
    · split at h1
      · next hq => cases h1; exact ⟨go_iald hd (O3 _ _ _ hq) (hP _ rfl), hlv⟩
      · cases h1
  | laload =>
    obtain ⟨hd, rfl⟩ := hd' (Nat.succ_ne_zero _)
    obtain ⟨r, i, rest, rfl, h1⟩ := am_ir_inv hs
    unfold am_rdL at h1
    split at h1
    · cases h1
    · split at h1
      · next hq => cases h1; exact ⟨go_lald hd (O3 _ _ _ hq) (hP _ rfl), hlv⟩
      · cases h1
  | baload =>
    obtain ⟨hd, rfl⟩ := hd' (Nat.succ_ne_zero _)
    obtain ⟨r, i, rest, rfl, h1⟩ := am_ir_inv hs
    unfold am_rdB at h1
    split at h1
    · cases h1
    · split at h1
      · next hq => cases h1; exact ⟨go_bald hd (O3 _ _ _ hq) (hP _ rfl), hlv⟩
      · next hq => cases h1; exact ⟨go_zald hd (O3 _ _ _ hq) (hP _ rfl), hlv⟩
      · cases h1
  | iastore =>
    obtain ⟨hd, rfl⟩ := hd' (Nat.succ_ne_zero _)
    obtain ⟨r, i, x, rest, rfl, h1⟩ := am_vir_inv hs
    unfold am_wrI at h1
    split at h1
    · split at h1
      · next hq =>
        obtain ⟨h6, h2, h3⟩ := Option.map_eq_some_iff.mp h1
        cases h3
        rw [O4 _ _ _ _ _ _ _ hq h2]
        exact ⟨go_iast hd (O3 _ _ _ hq) (hP _ rfl), hlv⟩
      · cases h1
    · cases h1
  | lastore =>
    obtain ⟨hd, rfl⟩ := hd' (Nat.succ_ne_zero _)
    obtain ⟨r, i, x, rest, rfl, h1⟩ := am_vir_inv hs
    unfold am_wrL at h1
    split at h1
    · split at h1
      · next hq =>
        obtain ⟨h6, h2, h3⟩ := Option.map_eq_some_iff.mp h1
        cases h3
        rw [O4 _ _ _ _ _ _ _ hq h2]
        exact ⟨go_last hd (O3 _ _ _ hq) (hP _ rfl), hlv⟩
      · cases h1
    · cases h1
  | bastore =>
    obtain ⟨hd, rfl⟩ := hd' (Nat.succ_ne_zero _)
    obtain ⟨r, i, x, rest, rfl, h1⟩ := am_vir_inv hs
    unfold am_wrB at h1
    split at h1
    · split at h1
      · next hq =>
        obtain ⟨h6, h2, h3⟩ := Option.map_eq_some_iff.mp h1
        cases h3
        rw [O4 _ _ _ _ _ _ _ hq h2]
        exact ⟨go_bast hd (O3 _ _ _ hq) (hP _ rfl).1 (hP _ rfl).2, hlv⟩
      · next hq =>
        obtain ⟨h6, h2, h3⟩ := Option.map_eq_some_iff.mp h1
        cases h3
        rw [O4 _ _ _ _ _ _ _ hq h2]
        exact ⟨go_zast hd (O3 _ _ _ hq) (hP _ rfl).1 (hP _ rfl).2, hlv⟩
      · cases h1
    · cases h1
  | arraylength =>
    obtain ⟨hd, rfl⟩ := hd' (Nat.succ_ne_zero _)
    obtain ⟨r, rest, rfl, h1⟩ := am_r1_inv hs
    unfold am_rdN at h1
    split at h1
    · split at h1
      · next hm => cases h1; exact ⟨go_slen hm hd, hlv⟩
      · cases h1
    · split at h1
      · next hq =>
        obtain ⟨t0, h2, h3⟩ := Option.map_eq_some_iff.mp h1
        cases h3
        exact ⟨go_alen hd h2 (O3 _ _ _ hq), hlv⟩
      · cases h1
  | new idx =>
    obtain ⟨hd, rfl⟩ := hd' (Nat.succ_ne_zero _)
    obtain ⟨C, T, nF, k1, k2⟩ := hk
    obtain ⟨q, h1, h2⟩ := Option.map_eq_some_iff.mp (show (O.2.2.2.2.1 h N S u).map _ = _ from hs)
    cases h2
    obtain ⟨h3, h4, h5, h6⟩ := O5 _ _ _ _ _ h1 (hP _ rfl)
    rw [h3, h4]
    exact ⟨go_new hd k1 k2 h5 (by rw [am_cl_len k1] at h6; exact h6), hlv⟩
  | newarray a =>
    obtain ⟨hd, rfl⟩ := hd' (Nat.succ_ne_zero _)
    obtain ⟨n, r, rfl, h1⟩ := am_i1_inv hs
    cases ha : am_at a with
    | none => rw [ha] at h1; cases h1
    | some q =>
      obtain ⟨ty, F⟩ := q
      rw [ha] at h1
      obtain ⟨q, h2, h3⟩ := Option.map_eq_some_iff.mp (show (O.2.2.2.2.2.1 h N S ty n F).map _ = _ from h1)
      cases h3
      obtain ⟨h4, h5, h6, h7, h8⟩ := O6 _ _ _ _ _ _ _ h2 (hP _ rfl)
      rw [h4, h5]
      exact ⟨go_newa hd ha h6 h7 h8, hlv⟩
  | invokespecial idx =>
    obtain ⟨hd, rfl⟩ := hd' (Nat.succ_ne_zero _)
    by_cases hv : v = 1
    · subst hv
      obtain ⟨r, rest, rfl, h1⟩ := am_r1_inv (show am_r1 st _ = _ from hs)
      cases h1
      exact ⟨go_obj hd (hk rfl) (hP _ rfl) hlv, hlv⟩
    · exfalso
      unfold am_step at hs
      dsimp only at hs
      split at hs
      · exact hv rfl
      · cases hs
  | invokestatic idx =>
    obtain ⟨hd, rfl⟩ := hd' (Nat.succ_ne_zero _)
    by_cases hv : v = 1
    · subst hv
      have hs : am_copy O _ lv st h = _ := hs
      unfold am_copy at hs
      split at hs
      · split at hs
        · next hq1 hq2 =>
          obtain ⟨h6, h2, h3⟩ := Option.map_eq_some_iff.mp hs
          cases h3
          rw [O4 _ _ _ _ _ _ _ hq2 h2]
          exact ⟨go_copy hd (hk.1 rfl) (O3 _ _ _ hq1) (O3 _ _ _ hq2) (hP _ rfl) hlv, hlv⟩
        · cases hs
      · cases hs
    · by_cases hv2 : v = 2
      · subst hv2
        obtain ⟨x, y, r, rfl, h1⟩ := am_i2_inv (show am_i2 st _ = _ from hs)
        cases h1
        exact ⟨go_max hd (hk.2 rfl) (hP _ rfl) hlv, hlv⟩
      · exfalso
        unfold am_step at hs
        dsimp only at hs
        split at hs
        · exact hv rfl
        · exact hv2 rfl
        · cases hs
  | _ => cases hs
def am_pand (P : Option Prop) (Q : Prop) : Prop := match P with
  | none => Q
  | some P => P ∧ Q
/-- the code that cd tells is the method's -/
def am_CD (mid : am_M) (cd : Nat → Option am_I) : Prop := ∀ (pc : Nat) (ins : Instr) (nx u v : Nat), cd pc = some (ins, nx, u, v) → decode (am_bytes mid) pc = .ok (ins, nx - pc) ∧ (am_len ins = 0 ∨ nx = pc + am_len ins) ∧ am_lk mid pc nx ins u v
def am_path (cd : Nat → Option am_I) (O : am_O Hp) (N S L : Nat) (xs : Nat → Int) (mid : am_M) : Nat → List Nat → Nat → am_L → List am_V → Hp → Option (Nat × am_L × List am_V × Hp × Prop)
  | 0, _, pc, lv, st, h => some (pc, lv, st, h, True)
  | n + 1, ch, pc, lv, st, h => match cd pc with
    | none => none
    | some (ins, nx, u, v) => match am_step O N S L xs mid (ch.headD 0) ins nx u v pc lv st h with
      | none => none
      | some (pc1, lv1, st1, h1, P1) => match am_path cd O N S L xs mid n (bif am_isBr ins then ch.tail else ch) pc1 lv1 st1 h1 with
        | none => none
        | some (pc2, lv2, st2, h2, P2) => some (pc2, lv2, st2, h2, am_pand P1 P2)
theorem am_path_ok {cd : Nat → Option am_I} (hcd : am_CD mid cd) (hO : am_Law O toC) : ∀ (n : Nat) (ch : List Nat) (pc : Nat) (lv : am_L) (st : List am_V) (h : Hp) (pc' : Nat) (lv' : am_L) (st' : List am_V) (h' : Hp) (P : Prop), lv.length = am_maxL mid → am_path cd O N S L xs mid n ch pc lv st h = some (pc', lv', st', h', P) → P → Go d N S L xs mid pc lv st (toC h) pc' lv' st' (toC h') ∧ lv'.length = am_maxL mid := by
  intro n
  induction n with
  | zero => intro ch pc lv st h pc' lv' st' h' P hl hp _; cases hp; exact ⟨Go.rfl', hl⟩
  | succ n ih =>
    intro ch pc lv st h pc' lv' st' h' P hl hp hP
    unfold am_path at hp
    split at hp
    · cases hp
    · next ins nx u v hc =>
      obtain ⟨c1, c2, c3⟩ := hcd _ _ _ _ _ hc
      split at hp
      · cases hp
      · next pc1 lv1 st1 h1 P1 hs =>
        split at hp
        · cases hp
        · next pc2 lv2 st2 h2 P2 hq =>
          cases hp
          have hP1 : (∀ q, P1 = some q → q) ∧ P2 := by
            cases P1 with
            | none => exact ⟨fun q hq => (by cases hq), hP⟩
            | some Q => exact ⟨fun q hq => (by cases hq; exact hP.1), hP.2⟩
          obtain ⟨g1, l1⟩ := am_step_ok (d := d) hO hl c1 c2 c3 hs hP1.1
          obtain ⟨g2, l2⟩ := ih _ _ _ _ _ _ _ _ _ _ l1 hq hP1.2
          exact ⟨g1.trans g2, l2⟩
theorem Go.path {cd : Nat → Option am_I} (hcd : am_CD mid cd) (hO : am_Law O toC) (n : Nat) (ch : List Nat) {P : Prop} (hp : am_path cd O N S L xs mid n ch pc lv st h = some (pc', lv', st', h', P)) (hP : P) (hl : lv.length = am_maxL mid) : Go d N S L xs mid pc lv st (toC h) pc' lv' st' (toC h') := (am_path_ok hcd hO n ch pc lv st h pc' lv' st' h' P hl hp hP).1
end SOUND
