/-! fields, arrays, new cells -/
def am_fw (own : String) (idx : Nat) (C : String) (T : u_T) (k : Nat) : Prop := (T k).1 = C ∧ Jvm.Cond.fieldLink own idx C (T k).2.1 (T k).2.2.1 ∈ am_TS
section GH
variable {d N S L : Nat} {xs : Nat → Int} {mid : am_M} {pc : Nat} {lv : am_L} {st : List am_V} {h : am_H}
theorem go_get {idx ci k r nF : Nat} {C : String} {T : u_T} {fs : List am_V} {v : am_V} (hd : decode (am_bytes mid) pc = .ok (.getfield idx, 3)) (hc : am_cl[ci]? = some (C, T, nF)) (hk : k < nF) (hw : am_fw (am_own mid) idx C T k) (hr : h[r]? = some (.inr (ci, fs))) (hv : fs[k]? = some v) : Go d N S L xs mid pc lv (vR (r + 1) :: st) h (pc + 3) lv (v :: st) h := by
  intro p l e R s m args below meth c Q b z n0 s0 tA D X kk H locs ls cells slots hl hP hS hc1 hs
  obtain ⟨hx, hb, hml, hown, hts, hK, -⟩ := X
  have hv' : (fs.map (am_c b z))[k]? = some (am_c b z v) := by rw [List.getElem?_map, hv]; rfl
  obtain ⟨hT, hw⟩ := hw
  exact va_get (v := am_c b z v) hx hb hts (am_cl_ws hc) hown hK hP r (am_cw_at hr) hc k hk (hts _ hw) (fun x hx => by rw [hT] at hx; exact hx) hv' hd (kk H locs ls cells slots hl hP hS hc1 hs)
def am_fit (ty : FieldType) (v : am_V) : Prop := match ty, v with
  | .int, .inl _ => True
  | .boolean, .inl z => z = 0 ∨ z = 1
  | .long, .inr (.inl _) => True
  | .object _, .inr (.inr _) => True
  | .array _, .inr (.inr _) => True
  | _, _ => False
theorem am_fit_ok {b z : Nat} {ty : FieldType} {v : am_V} (h : am_fit ty v) : narrow ty (am_c b z v) = am_c b z v ∧ fits ty (am_c b z v) = true := by
  match ty, v, h with
  | .int, .inl _, _ => exact ⟨rfl, rfl⟩
  | .boolean, .inl z, h =>
    rcases h with rfl | rfl
    · exact ⟨show narrow FieldType.boolean (Value.int (Int32.ofInt 0)) = Value.int (Int32.ofInt 0) by decide, show fits FieldType.boolean (Value.int (Int32.ofInt 0)) = true by decide⟩
    · exact ⟨show narrow FieldType.boolean (Value.int (Int32.ofInt 1)) = Value.int (Int32.ofInt 1) by decide, show fits FieldType.boolean (Value.int (Int32.ofInt 1)) = true by decide⟩
  | .long, .inr (.inl _), _ => exact ⟨rfl, rfl⟩
  | .object _, .inr (.inr none), _ => exact ⟨rfl, rfl⟩
  | .object _, .inr (.inr (some 0)), _ => exact ⟨rfl, rfl⟩
  | .object _, .inr (.inr (some (_ + 1))), _ => exact ⟨rfl, rfl⟩
  | .array _, .inr (.inr none), _ => exact ⟨rfl, rfl⟩
  | .array _, .inr (.inr (some 0)), _ => exact ⟨rfl, rfl⟩
  | .array _, .inr (.inr (some (_ + 1))), _ => exact ⟨rfl, rfl⟩
theorem am_setO (b z : Nat) (tA : FieldType → ClassId) (h : am_H) (r ci k : Nat) (fs : List am_V) (v : am_V) : (am_cw b z tA 0 h).set r (z + r, .inr (ci, (fs.map (am_c b z)).set k (am_c b z v))) = am_cw b z tA 0 (h.set r (.inr (ci, fs.set k v))) := by
  have e := am_cw_set0 b z tA (.inr (ci, fs.set k v)) h r
  rw [← e]
  show _ = (am_cw b z tA 0 h).set r (z + r, .inr (ci, (fs.set k v).map (am_c b z)))
  rw [List.map_set]
theorem go_put {idx ci k r nF : Nat} {C : String} {T : u_T} {fs : List am_V} {v : am_V} (hd : decode (am_bytes mid) pc = .ok (.putfield idx, 3)) (hc : am_cl[ci]? = some (C, T, nF)) (hk : k < nF) (hw : am_fw (am_own mid) idx C T k) (hfin : (T k).2.2.2 = true → am_init mid = true ∧ C = am_own mid) (hr : h[r]? = some (.inr (ci, fs))) (hl0 : k < fs.length) (hf : am_fit (am_fty ci k) v) : Go d N S L xs mid pc lv (v :: vR (r + 1) :: st) h (pc + 3) lv st (h.set r (.inr (ci, fs.set k v))) := by
  intro p l e R s m args below meth c Q b z n0 s0 tA D X kk H locs ls cells slots hl hP hS hc1 hs
  obtain ⟨hx, hb, hml, hown, hts, hK, hz, hini, -⟩ := X
  have hl1 : k < (fs.map (am_c b z)).length := by rw [List.length_map]; exact hl0
  have hlen : (h.set r (.inr (ci, fs.set k v))).length = n0 + cells ∧ (h.set r (.inr (ci, fs.set k v))).length ≤ N := by rw [List.length_set]; exact hc1
  have hsl := am_sl_set3 h r (.inr (ci, fs.set k v)) _ hr (by simp [am_sz]) hs
  obtain ⟨hn, hf2⟩ := am_fit_ok (b := b) (z := z) hf
  obtain ⟨hT, hw⟩ := hw
  by_cases hF : (T k).2.2.2 = true
  · obtain ⟨h1, h2⟩ := hfin hF
    exact va_putF (v := am_c b z v) (ty := am_fty ci k) hx hb hts (am_cl_ws hc) (am_fty ci) (am_cl_ty hc) (am_cl_nm hc) hown hK hP (am_cw_D b z tA h) hS r (am_cw_at hr) hc k hk (hts _ hw) (fun x hx => by rw [hT] at hx; exact hx) hF (hini h1) (by rw [hT]; exact h2) (am_cl_ty hc k hk) hn hf2 hl1 hd
      (fun H1 locs1 hP1 _ hS1 => kk H1 locs1 ls cells slots hl (by rw [← am_setO]; exact hP1) hS1 hlen hsl)
  · have hF : (T k).2.2.2 = false := by simpa using hF
    exact va_put (v := am_c b z v) (ty := am_fty ci k) hx hb hts (am_cl_ws hc) (am_fty ci) (am_cl_ty hc) (am_cl_nm hc) hown hK hP (am_cw_D b z tA h) hS r (am_cw_at hr) hc k hk (hts _ hw) (fun x hx => by rw [hT] at hx; exact hx) hF (am_cl_ty hc k hk) hn hf2 hl1 hd
      (fun H1 locs1 hP1 _ hS1 => kk H1 locs1 ls cells slots hl (by rw [← am_setO]; exact hP1) hS1 hlen hsl)
/-- a place in an array -/
def am_ix (i : Int) (n : Nat) : Prop := 0 ≤ i ∧ i < n ∧ (n : Int) < 2147483648
theorem go_iald {r n : Nat} {f : Nat → Int} {i : Int} (hd : decode (am_bytes mid) pc = .ok (.iaload, 1)) (hr : h[r]? = some (.inl (.int, n, .inl f))) (hi : am_ix i n) : Go d N S L xs mid pc lv (vI i :: vR (r + 1) :: st) h (pc + 1) lv (vI (f i.toNat) :: st) h := by
  intro p l e R s m args below meth c Q b z n0 s0 tA D X kk H locs ls cells slots hl hP hS hc1 hs
  obtain ⟨hx, hb, hml, hown, hts, hK, -⟩ := X
  refine va_iald hx hb hK hP r 0 (am_cw_at hr) rfl (am_vpin hi.1 hi.2.1 hi.2.2) hd ?_
  rw [am_clamp hi.1 (by have := hi.2.1; have := hi.2.2; omega)]
  exact kk H locs ls cells slots hl hP hS hc1 hs
theorem go_lald {r n : Nat} {f : Nat → Int64} {i : Int} (hd : decode (am_bytes mid) pc = .ok (.laload, 1)) (hr : h[r]? = some (.inl (.long, n, .inr f))) (hi : am_ix i n) : Go d N S L xs mid pc lv (vI i :: vR (r + 1) :: st) h (pc + 1) lv (vL (f i.toNat) :: st) h := by
  intro p l e R s m args below meth c Q b z n0 s0 tA D X kk H locs ls cells slots hl hP hS hc1 hs
  obtain ⟨hx, hb, hml, hown, hts, hK, -⟩ := X
  refine va_lald hx hb hK hP r 1 (am_cw_at hr) rfl (am_vpin hi.1 hi.2.1 hi.2.2) hd ?_
  rw [am_clamp hi.1 (by have := hi.2.1; have := hi.2.2; omega)]
  exact kk H locs ls cells slots hl hP hS hc1 hs
theorem go_bald {r n : Nat} {f : Nat → Int} {i : Int} (hd : decode (am_bytes mid) pc = .ok (.baload, 1)) (hr : h[r]? = some (.inl (.byte, n, .inl f))) (hi : am_ix i n) : Go d N S L xs mid pc lv (vI i :: vR (r + 1) :: st) h (pc + 1) lv (vI (f i.toNat) :: st) h := by
  intro p l e R s m args below meth c Q b z n0 s0 tA D X kk H locs ls cells slots hl hP hS hc1 hs
  obtain ⟨hx, hb, hml, hown, hts, hK, -⟩ := X
  refine va_bald hx hb hK hP r 2 (am_cw_at hr) rfl (am_vpin hi.1 hi.2.1 hi.2.2) hd ?_
  rw [am_clamp hi.1 (by have := hi.2.1; have := hi.2.2; omega)]
  exact kk H locs ls cells slots hl hP hS hc1 hs
theorem go_zald {r n : Nat} {f : Nat → Int} {i : Int} (hd : decode (am_bytes mid) pc = .ok (.baload, 1)) (hr : h[r]? = some (.inl (.boolean, n, .inl f))) (hi : am_ix i n) : Go d N S L xs mid pc lv (vI i :: vR (r + 1) :: st) h (pc + 1) lv (vI (f i.toNat) :: st) h := by
  intro p l e R s m args below meth c Q b z n0 s0 tA D X kk H locs ls cells slots hl hP hS hc1 hs
  obtain ⟨hx, hb, hml, hown, hts, hK, -⟩ := X
  refine va_zald hx hb hK hP r 3 (am_cw_at hr) rfl (am_vpin hi.1 hi.2.1 hi.2.2) hd ?_
  rw [am_clamp hi.1 (by have := hi.2.1; have := hi.2.2; omega)]
  exact kk H locs ls cells slots hl hP hS hc1 hs
theorem go_sald {i : Int} (hm : am_law mid = true) (hd : decode (am_bytes mid) pc = .ok (.iaload, 1)) (hi : am_ix i L) : Go d N S L xs mid pc lv (vI i :: vR 0 :: st) h (pc + 1) lv (vI (xs i.toNat) :: st) h := by
  intro p l e R s m args below meth c Q b z n0 s0 tA D X kk H locs ls cells slots hl hP hS hc1 hs
  obtain ⟨hx, hb, hml, hown, hts, hK, hz, hini, hf, hlo, hN, hSS, hscr⟩ := X
  obtain ⟨⟨ys, hX, hy⟩, hbz⟩ := hscr hm
  have hlt : i.toNat < L := by have := hi.1; have := hi.2.1; omega
  refine va_sld (A := fun q => z ≤ q) hx hb hX (by omega) (by omega) hS (am_vpin hi.1 hi.2.1 hi.2.2) hd ?_
  rw [am_clamp hi.1 (by have := hi.2.1; have := hi.2.2; omega), hy _ hlt]
  exact kk H locs ls cells slots hl hP hS hc1 hs
theorem am_setI (b z : Nat) (tA : FieldType → ClassId) (h : am_H) (r n k : Nat) (ty : FieldType) (f : Nat → Int) (x : Int) : (am_cw b z tA 0 h).set r (z + r, .inl (tA ty, n, .inl (upd (fun j => Int32.ofInt (f j)) k (Int32.ofInt x)))) = am_cw b z tA 0 (h.set r (.inl (ty, n, .inl (am_upd f k x)))) := by
  have e := am_cw_set0 b z tA (.inl (ty, n, .inl (am_upd f k x))) h r
  rw [← e]
  show _ = (am_cw b z tA 0 h).set r (z + r, .inl (tA ty, n, .inl (fun j => Int32.ofInt (am_upd f k x j))))
  rw [am_upd_i]
theorem go_iast {r n : Nat} {f : Nat → Int} {i x : Int} (hd : decode (am_bytes mid) pc = .ok (.iastore, 1)) (hr : h[r]? = some (.inl (.int, n, .inl f))) (hi : am_ix i n) : Go d N S L xs mid pc lv (vI x :: vI i :: vR (r + 1) :: st) h (pc + 1) lv st (h.set r (.inl (.int, n, .inl (am_upd f i.toNat x)))) := by
  intro p l e R s m args below meth c Q b z n0 s0 tA D X kk H locs ls cells slots hl hP hS hc1 hs
  obtain ⟨hx, hb, hml, hown, hts, hK, -⟩ := X
  refine va_iast hx hb hK hP (am_cw_D b z tA h) hS r 0 (am_cw_at hr) rfl (am_vpin hi.1 hi.2.1 hi.2.2) hd (fun H1 locs1 hP1 _ hS1 => ?_)
  rw [am_clamp hi.1 (by have := hi.2.1; have := hi.2.2; omega)] at hP1
  exact kk H1 locs1 ls cells slots hl (by rw [← am_setI]; exact hP1) hS1 (by rw [List.length_set]; exact hc1) (am_sl_set3 h r _ _ hr (by rfl) hs)
theorem go_last {r n : Nat} {f : Nat → Int64} {i : Int} {x : Int64} (hd : decode (am_bytes mid) pc = .ok (.lastore, 1)) (hr : h[r]? = some (.inl (.long, n, .inr f))) (hi : am_ix i n) : Go d N S L xs mid pc lv (vL x :: vI i :: vR (r + 1) :: st) h (pc + 1) lv st (h.set r (.inl (.long, n, .inr (am_upd f i.toNat x)))) := by
  intro p l e R s m args below meth c Q b z n0 s0 tA D X kk H locs ls cells slots hl hP hS hc1 hs
  obtain ⟨hx, hb, hml, hown, hts, hK, -⟩ := X
  refine va_last hx hb hK hP (am_cw_D b z tA h) hS r 1 (am_cw_at hr) rfl (am_vpin hi.1 hi.2.1 hi.2.2) hd (fun H1 locs1 hP1 _ hS1 => ?_)
  rw [am_clamp hi.1 (by have := hi.2.1; have := hi.2.2; omega)] at hP1
  exact kk H1 locs1 ls cells slots hl (by rw [← am_cw_set0]; exact hP1) hS1 (by rw [List.length_set]; exact hc1) (am_sl_set3 h r _ _ hr (by rfl) hs)
theorem am_nar_b {x : Int} (h1 : -128 ≤ x) (h2 : x ≤ 127) : vp_nar .byte (Int32.ofInt x) = Int32.ofInt x := by
  rw [vp_nar_byte, Int32.toInt8_ofInt, Int8.toInt32_ofInt h1 h2]
theorem am_nar_z {x : Int} (h : x = 0 ∨ x = 1) : vp_nar .boolean (Int32.ofInt x) = Int32.ofInt x := by
  rcases h with rfl | rfl <;> decide
theorem go_bast {r n : Nat} {f : Nat → Int} {i x : Int} (hd : decode (am_bytes mid) pc = .ok (.bastore, 1)) (hr : h[r]? = some (.inl (.byte, n, .inl f))) (hi : am_ix i n) (hx1 : -128 ≤ x ∧ x ≤ 127) : Go d N S L xs mid pc lv (vI x :: vI i :: vR (r + 1) :: st) h (pc + 1) lv st (h.set r (.inl (.byte, n, .inl (am_upd f i.toNat x)))) := by
  intro p l e R s m args below meth c Q b z n0 s0 tA D X kk H locs ls cells slots hl hP hS hc1 hs
  obtain ⟨hx, hb, hml, hown, hts, hK, -⟩ := X
  refine va_bast hx hb hK hP (am_cw_D b z tA h) hS r 2 (am_cw_at hr) rfl (am_vpin hi.1 hi.2.1 hi.2.2) hd (fun H1 locs1 hP1 _ hS1 => ?_)
  rw [am_clamp hi.1 (by have := hi.2.1; have := hi.2.2; omega), am_nar_b hx1.1 hx1.2] at hP1
  exact kk H1 locs1 ls cells slots hl (by rw [← am_setI]; exact hP1) hS1 (by rw [List.length_set]; exact hc1) (am_sl_set3 h r _ _ hr (by rfl) hs)
theorem go_zast {r n : Nat} {f : Nat → Int} {i x : Int} (hd : decode (am_bytes mid) pc = .ok (.bastore, 1)) (hr : h[r]? = some (.inl (.boolean, n, .inl f))) (hi : am_ix i n) (hx1 : x = 0 ∨ x = 1) : Go d N S L xs mid pc lv (vI x :: vI i :: vR (r + 1) :: st) h (pc + 1) lv st (h.set r (.inl (.boolean, n, .inl (am_upd f i.toNat x)))) := by
  intro p l e R s m args below meth c Q b z n0 s0 tA D X kk H locs ls cells slots hl hP hS hc1 hs
  obtain ⟨hx, hb, hml, hown, hts, hK, -⟩ := X
  refine va_zast hx hb hK hP (am_cw_D b z tA h) hS r 3 (am_cw_at hr) rfl (am_vpin hi.1 hi.2.1 hi.2.2) hd (fun H1 locs1 hP1 _ hS1 => ?_)
  rw [am_clamp hi.1 (by have := hi.2.1; have := hi.2.2; omega), am_nar_z hx1] at hP1
  exact kk H1 locs1 ls cells slots hl (by rw [← am_setI]; exact hP1) hS1 (by rw [List.length_set]; exact hc1) (am_sl_set3 h r _ _ hr (by rfl) hs)
def am_tyN (ty : FieldType) : Option Nat := match ty with
  | .int => some 0
  | .long => some 1
  | .byte => some 2
  | .boolean => some 3
  | _ => none
theorem am_tyN_ok {tA : FieldType → ClassId} {ty : FieldType} {t0 : Nat} (h : am_tyN ty = some t0) : (am_tys tA)[t0]? = some (tA ty, ty) := by
  cases ty <;> simp [am_tyN] at h <;> subst h <;> rfl
theorem go_alen {r n : Nat} {ty : FieldType} {F : am_F} {t0 : Nat} (hd : decode (am_bytes mid) pc = .ok (.arraylength, 1)) (ht : am_tyN ty = some t0) (hr : h[r]? = some (.inl (ty, n, F))) : Go d N S L xs mid pc lv (vR (r + 1) :: st) h (pc + 1) lv (vI n :: st) h := by
  intro p l e R s m args below meth c Q b z n0 s0 tA D X kk H locs ls cells slots hl hP hS hc1 hs
  obtain ⟨hx, hb, hml, hown, hts, hK, -⟩ := X
  rcases F with f | f
  · exact va_alen hx hb hK hP r t0 (am_cw_at hr) (am_tyN_ok ht) (v := Int32.ofInt n) (Int32.ofInt_eq_ofNat).symm hd (kk H locs ls cells slots hl hP hS hc1 hs)
  · exact va_alen hx hb hK hP r t0 (am_cw_at hr) (am_tyN_ok ht) (v := Int32.ofInt n) (Int32.ofInt_eq_ofNat).symm hd (kk H locs ls cells slots hl hP hS hc1 hs)
theorem go_slen (hm : am_law mid = true) (hd : decode (am_bytes mid) pc = .ok (.arraylength, 1)) : Go d N S L xs mid pc lv (vR 0 :: st) h (pc + 1) lv (vI L :: st) h := by
  intro p l e R s m args below meth c Q b z n0 s0 tA D X kk H locs ls cells slots hl hP hS hc1 hs
  obtain ⟨hx, hb, hml, hown, hts, hK, hz, hini, hf, hlo, hN, hSS, hscr⟩ := X
  obtain ⟨⟨ys, hX, hy⟩, hbz⟩ := hscr hm
  refine va_slen (A := fun q => z ≤ q) hx hb hX (by omega) (by omega) hS hd ?_
  rw [← Int32.ofInt_eq_ofNat]
  exact kk H locs ls cells slots hl hP hS hc1 hs
/-- the place of a new cell -/
theorem am_newq {b z : Nat} {tA : FieldType → ClassId} {D : va_G} {H1 : Heap} {q : Nat} {e : va_E} {h : am_H} (hP1 : va_P D am_cl (am_cw b z tA 0 h ++ [(q, e)]) H1) (hD1 : va_D (fun q => z ≤ q) (am_cw b z tA 0 h ++ [(q, e)])) (hsz : H1.size ≤ z + h.length + 1) : q = z + h.length := by
  have hlast : (am_cw b z tA 0 h ++ [(q, e)])[h.length]? = some (q, e) := by
    rw [List.getElem?_append_right (by rw [am_cw_len]; exact Nat.le_refl _), am_cw_len]; simp
  have h1 : q < H1.size := (hP1 _ _ hlast).lt
  have h2 : z ≤ q := hD1.2 _ _ hlast
  by_cases h3 : q = z + h.length
  · exact h3
  · exfalso
    have hi : q - z < h.length := by omega
    have hg : h[q - z]? = some h[q - z] := List.getElem?_eq_getElem hi
    have h4 : (am_cw b z tA 0 h ++ [(q, e)])[q - z]? = some (z + (q - z), am_ce b z tA h[q - z]) := by
      rw [List.getElem?_append_left (by rw [am_cw_len]; exact hi)]
      exact am_cw_at hg
    have h5 := hD1.1 _ _ _ _ h4 hlast (by show z + (q - z) = q; omega)
    omega
theorem go_new {idx ci nF : Nat} {C : String} {T : u_T} (hd : decode (am_bytes mid) pc = .ok (.new idx, 3)) (hc : am_cl[ci]? = some (C, T, nF)) (hw : Jvm.Cond.classLink (am_own mid) idx C ∈ am_TS) (hN : h.length + 1 ≤ N) (hS1 : am_sl h + nF ≤ S) : Go d N S L xs mid pc lv st h (pc + 3) lv (vR (h.length + 1) :: st) (h ++ [.inr (ci, am_dfl ci)]) := by
  intro p l e R s m args below meth c Q b z n0 s0 tA D X kk H locs ls cells slots hl hP hS hc1 hs
  obtain ⟨hx, hb, hml, hown, hts, hK, hz, hini, hf, hlo, hNN, hSS, hscr⟩ := X
  refine va_new hx hb hts (am_cl_ws hc) (am_fty ci) (am_cl_ty hc) hown (hts _ hw) (hts _ (am_cl_inst hc)) (hts _ (am_cl_ini hc)) hK hP (am_cw_D b z tA h) hS (fun q hq => by rw [hz] at hq; omega) hc (fs := (am_dfl ci).map (am_c b z)) (am_cl_dfl b z hc) (by omega) (by omega) hd (fun q H1 hP1 hD1 hS1 => ?_)
  refine am_size (fun hsz => ?_)
  have hq : q = z + h.length := am_newq hP1 hD1 (by omega)
  subst hq
  have e0 := am_cw_app b z tA (.inr (ci, am_dfl ci)) h 0
  rw [Nat.zero_add] at e0
  exact kk H1 locs ls (cells + 1) (slots + nF) hl (by rw [e0]; exact hP1) hS1 ⟨by simp; omega, by simp; omega⟩ (by rw [am_sl_app, show am_sz (.inr (ci, am_dfl ci)) = nF from am_cl_len hc]; omega)
def am_at (a : ArrayType) : Option (FieldType × am_F) := match a with
  | .int => some (.int, .inl (fun _ => 0))
  | .long => some (.long, .inr (fun _ => 0))
  | .byte => some (.byte, .inl (fun _ => 0))
  | .boolean => some (.boolean, .inl (fun _ => 0))
  | _ => none
theorem am_at_ok {a : ArrayType} {ty : FieldType} {F : am_F} (h : am_at a = some (ty, F)) : newarray.typeOf a = ty ∧ (∃ t0, am_tyN ty = some t0) ∧ componentBytes ty ≤ 8 ∧ Jvm.Cond.arrayClass ty ∈ am_TS ∧ ∀ (b z n : Nat) (tA : FieldType → ClassId) (cA : ClassId), ∃ a0 : vp_A, am_ce b z tA (.inl (ty, n, F)) = .inl (tA ty, a0) ∧ vp_cell cA a0 = arrV cA n (fun _ => defaultValue ty) := by
  cases a <;> simp [am_at] at h <;> obtain ⟨rfl, rfl⟩ := h
  · exact ⟨rfl, ⟨_, rfl⟩, by decide, am_TS_z, fun b z n tA cA => ⟨_, rfl, rfl⟩⟩
  · exact ⟨rfl, ⟨_, rfl⟩, by decide, am_TS_b, fun b z n tA cA => ⟨_, rfl, rfl⟩⟩
  · exact ⟨rfl, ⟨_, rfl⟩, by decide, am_TS_i, fun b z n tA cA => ⟨_, rfl, rfl⟩⟩
  · exact ⟨rfl, ⟨_, rfl⟩, by decide, am_TS_l, fun b z n tA cA => ⟨_, rfl, rfl⟩⟩
theorem go_newa {a : ArrayType} {ty : FieldType} {F : am_F} {n : Int} (hd : decode (am_bytes mid) pc = .ok (.newarray a, 2)) (ha : am_at a = some (ty, F)) (hn : 0 ≤ n ∧ n < 10000) (hN : h.length + 1 ≤ N) (hS1 : am_sl h + n.toNat ≤ S) : Go d N S L xs mid pc lv (vI n :: st) h (pc + 2) lv (vR (h.length + 1) :: st) (h ++ [.inl (ty, n.toNat, F)]) := by
  intro p l e R s m args below meth c Q b z n0 s0 tA D X kk H locs ls cells slots hl hP hS hc1 hs
  obtain ⟨hx, hb, hml, hown, hts, hK, hz, hini, hf, hlo, hNN, hSS, hscr⟩ := X
  obtain ⟨hty, ⟨t0, ht0⟩, hcb, hac, hcell⟩ := am_at_ok ha
  obtain ⟨a0, hce, -⟩ := hcell b z n.toNat tA 0
  have ha0 : ∀ cA : ClassId, vp_cell cA a0 = arrV cA n.toNat (fun _ => defaultValue ty) := by
    intro cA
    obtain ⟨a1, h1, h2⟩ := hcell b z n.toNat tA cA
    have e1 := hce.symm.trans h1
    cases e1
    exact h2
  refine va_newa (a0 := a0) (N' := n.toNat) hx hb (by rw [hty]; exact hts _ hac) hty hK hP (am_cw_D b z tA h) hS (fun q hq => by rw [hz] at hq; omega) ha0 (am_nonneg hn.1 (by omega)) (am_clamp hn.1 (by omega)) (Nat.le_trans (Nat.mul_le_mul (show n.toNat ≤ 10000 by omega) hcb) (by decide)) (by omega) (by omega) hd (fun q cA H1 hK1 hP1 hD1 hS1 => ?_)
  refine am_size (fun hsz => ?_)
  have hq : q = z + h.length := am_newq hP1 hD1 (by omega)
  subst hq
  have hA1 := (hK1.2 4 (cA, ty) rfl).2
  have hA2 := (hK.2 t0 _ (am_tyN_ok ht0)).2
  have hcA : cA = tA ty := by
    cases a <;> simp [am_at] at ha <;> obtain ⟨rfl, rfl⟩ := ha <;> exact Option.some.inj (hA1.symm.trans hA2)
  subst hcA
  have e0 := am_cw_app b z tA (.inl (ty, n.toNat, F)) h 0
  rw [Nat.zero_add] at e0
  exact kk H1 locs ls (cells + 1) (slots + n.toNat) hl (by rw [e0, hce]; exact hP1) hS1 ⟨by simp; omega, by simp; omega⟩ (by rw [am_sl_app]; show am_sl h + n.toNat = _ ∧ am_sl h + n.toNat ≤ _; omega)
/-- Object's constructor -/
theorem go_obj {idx r : Nat} (hd : decode (am_bytes mid) pc = .ok (.invokespecial idx, 3)) (hw : Jvm.Cond.methodLink (am_own mid) idx objectInit ∈ am_TS) (hst : (st.map am_cat).sum ≤ 8) (hlv : lv.length = am_maxL mid) : Go d N S L xs mid pc lv (vR r :: st) h (pc + 3) lv st h := by
  intro p l e R s m args below meth c Q b z n0 s0 tA D X kk H locs ls cells slots hl hP hS hc1 hs
  obtain ⟨hx, hb, hml, hown, hts, hK, hz, hini, hf, hlo, hNN, hSS, hscr⟩ := X
  obtain ⟨a, ha⟩ := am_c_ref b z r
  have hsum : ((st.map (am_c b z)).map fun v => v.category).sum ≤ 8 := by
    rw [List.map_map]
    have e : (fun v => Value.category v) ∘ am_c b z = am_cat := funext fun v => am_c_cat b z v
    rw [e]; exact hst
  have h20 : 20 ≤ R.locals := Nat.le_trans (Nat.le_trans am_lw20 (Nat.le_mul_of_pos_right _ (Nat.succ_pos d))) hlo
  rw [List.map_cons, ha]
  refine W.objInit hx hb hown (hts _ hw) (hts _ am_TS_o1) (hts _ am_TS_o2) rfl (by rw [hml, ← hlv]; exact hl.2.1) rfl hd (by omega) ?_ (kk H locs ls cells slots hl hP hS hc1 hs)
  show 2 * 0 + _ + 12 ≤ _
  omega
end GH
