/-! a method's contract, and calls -/
def am_ws (mid : am_M) : List Jvm.Cond := Jvm.Cond.code (am_y mid) (am_bytes mid) (am_maxL mid) (am_ret mid) :: am_TS
def am_room (d mc ms : Nat) : Room := { frames := d + 1, cells := mc, slots := ms, locals := am_lw * (d + 1) }
def am_Pc (b z : Nat) (tA : FieldType → ClassId) (D : va_G) (as : List am_V) (h : am_H) : Array Value → State → Prop := fun v U => v = (as.map (am_c b z)).toArray ∧ (U.heap.size = z + h.length ∧ va_P D am_cl (am_cw b z tA 0 h) U.heap ∧ va_K D am_cl (am_tys tA) U)
def am_Qc (b z : Nat) (tA : FieldType → ClassId) (D : va_G) (r : Option am_V) (h' : am_H) : Array Value → State → Outcome → State → Prop := fun _ st oc t => oc = .returned (r.map (am_c b z)) ∧ va_P D am_cl (am_cw b z tA 0 h') t.heap ∧ va_F (fun q => z ≤ q) st t
/-- method mid, called with as over the heap h, returns r and leaves the heap h' -/
def Cl (d : Nat) (mid : am_M) (as : List am_V) (h : am_H) (r : Option am_V) (h' : am_H) : Prop :=
  h.length ≤ h'.length ∧ am_sl h ≤ am_sl h' ∧ ∀ (l : Launch) (b z : Nat) (tA : FieldType → ClassId) (D : va_G), Met l (am_y mid) (am_ws mid) (am_room d (h'.length - h.length) (am_sl h' - am_sl h)) (am_Pc b z tA D as h) (am_Qc b z tA D r h') (h'.length - h.length) (am_sl h' - am_sl h) (fun q => z ≤ q)
theorem am_good {mid mid' : am_M} (hm : Jvm.Cond.code (am_y mid') (am_bytes mid') (am_maxL mid') (am_ret mid') ∈ am_TS) : GoodIn (am_ws mid) (am_ws mid') := by
  intro w hw
  have h1 : w ∈ am_TS := by
    rcases List.mem_cons.mp hw with rfl | hw
    · exact hm
    · exact hw
  exact ⟨List.mem_cons_of_mem _ h1, good_of_word (am_TS_good w h1)⟩
theorem am_good0 {mid' : am_M} (hm : Jvm.Cond.code (am_y mid') (am_bytes mid') (am_maxL mid') (am_ret mid') ∈ am_TS) : GoodIn am_TS (am_ws mid') := by
  intro w hw
  have h1 : w ∈ am_TS := by
    rcases List.mem_cons.mp hw with rfl | hw
    · exact hm
    · exact hw
  exact ⟨h1, good_of_word (am_TS_good w h1)⟩
theorem am_blind (b z : Nat) (tA : FieldType → ClassId) (D : va_G) (as : List am_V) (h : am_H) : FrameBlind (am_Pc b z tA D as h) := fun a U g mk q => by
  obtain ⟨q0, q1, qP, qK⟩ := q
  exact ⟨q0, q1, qP, va_K.moved (u := U) (U := U.calling g mk a) (Vm.Alike.refl U.vm) qK⟩
/-- the body of a method up to its return is its contract -/
theorem Cl.body {d : Nat} {mid : am_M} {as : List am_V} {h h' : am_H} {r : Option am_V} {pc' : Nat} {lv' : am_L} (hy : plainName (am_y mid).cls = true) (hi : am_init mid = true → (am_y mid).name = "<init>") (h0 : am_law mid = false) (hn : (am_ea as).length ≤ am_maxL mid) (hl : h.length ≤ h'.length) (hs : am_sl h ≤ am_sl h')
    (g : Go d h'.length (am_sl h') 0 (fun _ => 0) mid 0 (am_ent (am_maxL mid) as) [] h pc' lv' r.toList h')
    (hret : (r = none ∧ am_ret mid = none ∧ decode (am_bytes mid) pc' = .ok (.return_, 1)) ∨ (∃ x, r = some (vI x) ∧ am_ret mid = some .int ∧ decode (am_bytes mid) pc' = .ok (.ireturn, 1)) ∨ (∃ x, r = some (vI x) ∧ (x = 0 ∨ x = 1) ∧ am_ret mid = some .boolean ∧ decode (am_bytes mid) pc' = .ok (.ireturn, 1)) ∨ (∃ x, r = some (vL x) ∧ am_ret mid = some .long ∧ decode (am_bytes mid) pc' = .ok (.lreturn, 1))) : Cl d mid as h r h' := by
  refine ⟨hl, hs, fun l b z tA D => ?_⟩
  refine Met.ofW (cc := am_bytes mid) (maxL := am_maxL mid) (ret := am_ret mid) hy rfl ?_
  intro p e s m args below meth c s₁ B hml hv
  obtain ⟨rfl, hsz, hP, hK⟩ := hv
  have hx := B.exec
  have hb := B.bytes
  have hr := B.returns
  have hts := atoms_spec (ws := am_ws mid) B.pre
  have hown2 : s.vm.findClass (am_own mid) = some m.cls := findClass_of_methodNamed B.named
  have hlocks := B.notSynchronized
  have hin : am_init mid = true → meth.name = "<init>" := fun q => by rw [(name_of_methodNamed B.named B.method).1]; exact hi q
  rw [lg_entry_eq]
  have hlv := am_ent_lv b z (am_maxL mid) as hn
  refine g p l e _ s m _ below meth c _ b z h.length (am_sl h) tA D ⟨hx, hb, hml, hown2, fun w hw => hts w (List.mem_cons_of_mem _ hw), hK, hsz, hin, Nat.le_refl _, Nat.le_refl _, ?_, ?_, fun q => by rw [h0] at q; cases q⟩ ?_ s.heap [] _ 0 0 hlv hP va_S.rf ⟨rfl, hl⟩ ⟨rfl, hs⟩
  · show h'.length ≤ h.length + (h'.length - h.length)
    omega
  · show am_sl h' ≤ am_sl h + (am_sl h' - am_sl h)
    omega
  · intro H locs ls cells slots hl1 hP1 hS1 hc1 hs1
    have e1 : h'.length - h.length = cells := by omega
    have e2 : am_sl h' - am_sl h = slots := by omega
    rw [e1, e2]
    rcases hret with ⟨rfl, hrt, hd⟩ | ⟨x, rfl, hrt, hd⟩ | ⟨x, rfl, hx01, hrt, hd⟩ | ⟨x, rfl, hrt, hd⟩
    · exact W.vret hx hb (by rw [hr, hrt]) (fun t ht hW => ⟨rfl, by rw [ht]; exact hP1, hS1.F ht⟩) hS1.2.2 hd
    · exact W.iret hx hb (by rw [hr, hrt]) (fun t ht hW => ⟨rfl, by rw [ht]; exact hP1, hS1.F ht⟩) hS1.2.2 hd
    · exact W.zret (ty := .boolean) hx hb (by rw [hr, hrt]) (by rcases hx01 with rfl | rfl <;> decide) (fun t ht hW => ⟨rfl, by rw [ht]; exact hP1, hS1.F ht⟩) hS1.2.2 hd
    · exact W.lret hx hb (by rw [hr, hrt]) (fun t ht hW => ⟨rfl, by rw [ht]; exact hP1, hS1.F ht⟩) hS1.2.2 hd
/-- behind a call -/
theorem am_back {p : Program} {l : Launch} {e : Env} {R : Room} {s : State} {m : MethodId} {args : Array Value} {below : List Frame} {meth : Method} {c : Code} {H : Heap} {locs : List Loc} {cells slots mc ms : Nat} {Q : State → Prop} {pc : Nat} {ls : Array Slot} {st0 rest : List Value} {a : Array Value} {b z : Nat} {tA : FieldType → ClassId} {D : va_G} {r : Option am_V} {h' : am_H}
    (hr : va_Run p l e R s m args below meth c H locs cells slots mc ms (F0 m pc ls st0) rest (am_Qc b z tA D r h' a) (fun q => z ≤ q)) (hS : va_S (fun q => z ≤ q) s.heap H locs)
    (kk : ∀ (H1 : Heap) (locs1 : List Loc), va_P D am_cl (am_cw b z tA 0 h') H1 → va_S (fun q => z ≤ q) s.heap H1 locs1 → W p l e R s m args below meth c H1 locs1 (cells + mc) (slots + ms) Q (F0 m (pc + 3) ls ((r.map (am_c b z)).toList ++ rest))) : W p l e R s m args below meth c H locs cells slots Q (F0 m pc ls st0) := by
  intro T hT X
  obtain ⟨v, st₀, t, T', L, h0, X', hL, e1, e2, ⟨hv, hb, hz, hk⟩, st⟩ := hr T hT X
  cases hv
  rw [h0] at hz hk
  obtain ⟨t2, a1, b1⟩ := kk T'.heap (locs ++ L) (by rw [e1]; exact hb)
    ⟨Nat.le_trans hS.1 (by rw [e1]; exact hz), fun q h1 h2 => by rw [e1, hk q (Nat.lt_of_lt_of_le h1 hS.1) h2]; exact hS.2.1 q h1 h2, fun q hq => by
      rcases List.mem_append.mp hq with h | h
      · exact hS.2.2 q h
      · exact hL q h⟩ T' rfl X'
  exact ⟨t2, st t2 a1, b1⟩
theorem am_heapsize {b z n0 cells : Nat} {tA : FieldType → ClassId} {D : va_G} {h : am_H} {s : State} {H : Heap} {locs : List Loc} (hP : va_P D am_cl (am_cw b z tA 0 h) H) (hS : va_S (fun q => z ≤ q) s.heap H locs) (hz : s.heap.size = z + n0) (hc : h.length = n0 + cells) (hsz : H.size ≤ s.heap.size + cells) : H.size = z + h.length := by
  have h1 := hS.1
  cases hcl : cells with
  | zero => omega
  | succ k =>
    have hlt : h.length - 1 < h.length := by omega
    have hg : h[h.length - 1]? = some h[h.length - 1] := List.getElem?_eq_getElem hlt
    have h2 := (hP _ _ (am_cw_at (b := b) (z := z) (tA := tA) hg)).lt
    dsimp only at h2
    omega
theorem am_sumC (b z : Nat) (st : List am_V) (k : Nat) (h : am_sum st ≤ k) : ((st.map (am_c b z)).map fun v => v.category).sum ≤ k := by
  rw [List.map_map]
  have e : (fun v => Value.category v) ∘ am_c b z = am_cat := funext fun v => am_c_cat b z v
  rw [e]; exact h
section CALL
variable {d N S L : Nat} {xs : Nat → Int} {mid mid' : am_M} {pc idx : Nat} {lv : am_L} {st as : List am_V} {h h' : am_H} {res : Option am_V}
theorem am_rooms {d mc ms : Nat} {R : Room} {mid' : am_M} (hm : am_maxL mid' + 19 ≤ am_lw) (hf : d + 1 + 1 ≤ R.frames) (hlo : am_lw * (d + 1 + 1) ≤ R.locals) : (am_room d mc ms).frames + 1 ≤ R.frames ∧ 8 + (am_maxL mid' + 11) + (am_room d mc ms).locals ≤ R.locals := by
  refine ⟨hf, ?_⟩
  show 8 + (am_maxL mid' + 11) + am_lw * (d + 1) ≤ R.locals
  have e1 : am_lw * (d + 1 + 1) = am_lw * (d + 1) + am_lw := Nat.mul_succ _ _
  omega
/-- a call of an object's method -/
theorem Go.callV {r ci nF : Nat} {T : u_T} {fs : List am_V} (hd : decode (am_bytes mid) pc = .ok (.invokevirtual idx, 3)) (hk : Jvm.Cond.methodLink (am_own mid) idx (am_y mid') ∈ am_TS) (cf : am_cfV mid' as.length) (hc : am_cl[ci]? = some ((am_y mid').cls, T, nF)) (hr : h[r]? = some (.inr (ci, fs)))
    (hcl : Cl d mid' (vR (r + 1) :: as) h res h') (hst : am_sum st ≤ 8) (hlv : lv.length = am_maxL mid) (hN : h'.length ≤ N) (hS : am_sl h' ≤ S) : Go (d + 1) N S L xs mid pc lv (as.reverse ++ vR (r + 1) :: st) h (pc + 3) lv (res.toList ++ st) h' := by
  intro p l e R s m args below meth c Q b z n0 s0 tA D X kk H locs ls cells slots hl hP hS0 hc1 hs
  obtain ⟨hx, hb, hml, hown, hts, hK, hz, hini, hf, hlo, hNN, hSS, hscr⟩ := X
  obtain ⟨hl1, hl2, hM⟩ := hcl
  obtain ⟨f1, f2, f3, f4, f5, f6⟩ := cf
  refine am_size (fun hsz => ?_)
  have hHs := am_heapsize hP hS0 hz hc1.1 hsz
  have hp : PreV s H (am_y mid').cls (z + r) (am_Pc b z tA D (vR (r + 1) :: as) h) (as.map (am_c b z)) :=
    ⟨am_blind b z tA D _ h, va_recv hK hP hc (am_cw_at hr), fun U hU hW => ⟨rfl, by rw [hU]; exact hHs, by rw [hU]; exact hP, va_K.moved hW.alike hK⟩⟩
  have hstk : (as.reverse ++ vR (r + 1) :: st).map (am_c b z) = (as.map (am_c b z)).reverse ++ .ref (z + r) :: st.map (am_c b z) := by
    rw [List.map_append, List.map_reverse]; rfl
  have hrun := va_runV (R := R) (g := F0 m pc ls ((as.reverse ++ vR (r + 1) :: st).map (am_c b z))) (e := e) (below := below) (meth := meth) (locs := locs) (cells := cells) (slots := slots) ⟨hx, hb, hml, hown, hts⟩ (hM l b z tA D)
    ⟨callB_of as.length hts (am_good0 f1) rfl rfl rfl (hts _ f4) (hts _ hk) f6 (am_rooms f5.1 hf hlo), hts _ f2, hts _ f3⟩ hp rfl (by rw [List.length_map]) (by rw [hl.2.1, hlv]) hstk (by show 2 * 0 + _ ≤ 8; have := am_sumC b z st 8 hst; omega) hd (by omega)
  refine am_back hrun hS0 (fun H1 locs1 hP1 hS1 => ?_)
  have hk := kk H1 locs1 ls (cells + (h'.length - h.length)) (slots + (am_sl h' - am_sl h)) hl hP1 hS1 (by omega) (by omega)
  cases res <;> exact hk
/-- a call of a static method -/
theorem Go.callS (hd : decode (am_bytes mid) pc = .ok (.invokestatic idx, 3)) (hk : Jvm.Cond.methodLink (am_own mid) idx (am_y mid') ∈ am_TS) (cf : am_cfS mid' as.length)
    (hcl : Cl d mid' as h res h') (hst : am_sum st ≤ 8) (hlv : lv.length = am_maxL mid) (hN : h'.length ≤ N) (hS : am_sl h' ≤ S) : Go (d + 1) N S L xs mid pc lv (as.reverse ++ st) h (pc + 3) lv (res.toList ++ st) h' := by
  intro p l e R s m args below meth c Q b z n0 s0 tA D X kk H locs ls cells slots hl hP hS0 hc1 hs
  obtain ⟨hx, hb, hml, hown, hts, hK, hz, hini, hf, hlo, hNN, hSS, hscr⟩ := X
  obtain ⟨hl1, hl2, hM⟩ := hcl
  obtain ⟨f1, f2, f4, f5, f6⟩ := cf
  refine am_size (fun hsz => ?_)
  have hHs := am_heapsize hP hS0 hz hc1.1 hsz
  have hp : PreS s H (am_Pc b z tA D as h) (as.map (am_c b z)) :=
    ⟨am_blind b z tA D _ h, fun U hU hW => ⟨rfl, by rw [hU]; exact hHs, by rw [hU]; exact hP, va_K.moved hW.alike hK⟩⟩
  have hstk : (as.reverse ++ st).map (am_c b z) = (as.map (am_c b z)).reverse ++ st.map (am_c b z) := by
    rw [List.map_append, List.map_reverse]
  have hrun := va_runS (R := R) (g := F0 m pc ls ((as.reverse ++ st).map (am_c b z))) (e := e) (below := below) (meth := meth) (locs := locs) (cells := cells) (slots := slots) ⟨hx, hb, hml, hown, hts⟩ (hM l b z tA D)
    ⟨callB_of as.length hts (am_good0 f1) rfl rfl rfl (hts _ f4) (hts _ hk) f6 (am_rooms f5.1 hf hlo), hts _ f2⟩ hp rfl (by rw [List.length_map]) (by rw [hl.2.1, hlv]) hstk (by show 2 * 0 + _ ≤ 8; have := am_sumC b z st 8 hst; omega) hd (by omega)
  refine am_back hrun hS0 (fun H1 locs1 hP1 hS1 => ?_)
  have hk := kk H1 locs1 ls (cells + (h'.length - h.length)) (slots + (am_sl h' - am_sl h)) hl hP1 hS1 (by omega) (by omega)
  cases res <;> exact hk
/-- a call of a constructor -/
theorem Go.callI {r : Nat} (hd : decode (am_bytes mid) pc = .ok (.invokespecial idx, 3)) (hk : Jvm.Cond.methodLink (am_own mid) idx (am_y mid') ∈ am_TS) (cf : am_cfI mid' as.length)
    (hcl : Cl d mid' (vR (r + 1) :: as) h none h') (hst : am_sum st ≤ 8) (hlv : lv.length = am_maxL mid) (hN : h'.length ≤ N) (hS : am_sl h' ≤ S) : Go (d + 1) N S L xs mid pc lv (as.reverse ++ vR (r + 1) :: st) h (pc + 3) lv st h' := by
  intro p l e R s m args below meth c Q b z n0 s0 tA D X kk H locs ls cells slots hl hP hS0 hc1 hs
  obtain ⟨hx, hb, hml, hown, hts, hK, hz, hini, hf, hlo, hNN, hSS, hscr⟩ := X
  obtain ⟨hl1, hl2, hM⟩ := hcl
  obtain ⟨f1, f2, f4, ⟨f5, f6⟩, f7, f8⟩ := cf
  have f1' : Jvm.Cond.code (am_y mid') (am_bytes mid') (am_maxL mid') (am_ret mid') ∈ am_TS := by rw [f8]; exact f1
  refine am_size (fun hsz => ?_)
  have hHs := am_heapsize hP hS0 hz hc1.1 hsz
  have hp : PreS s H (am_Pc b z tA D (vR (r + 1) :: as) h) (.ref (z + r) :: as.map (am_c b z)) :=
    ⟨am_blind b z tA D _ h, fun U hU hW => ⟨rfl, by rw [hU]; exact hHs, by rw [hU]; exact hP, va_K.moved hW.alike hK⟩⟩
  have hstk : (as.reverse ++ vR (r + 1) :: st).map (am_c b z) = (as.map (am_c b z)).reverse ++ .ref (z + r) :: st.map (am_c b z) := by
    rw [List.map_append, List.map_reverse]; rfl
  have hrun := va_runI (R := R) (g := F0 m pc ls ((as.reverse ++ vR (r + 1) :: st).map (am_c b z))) (e := e) (below := below) (meth := meth) (locs := locs) (cells := cells) (slots := slots) ⟨hx, hb, hml, hown, hts⟩ (hM l b z tA D)
    ⟨callB_of as.length hts (am_good0 f1') (by rw [am_ws, f8]) rfl rfl (hts _ f4) (hts _ hk) f6 (am_rooms f5.1 hf hlo), f7, hts _ f2⟩ hp rfl (by rw [List.length_map]) (by rw [hl.2.1, hlv]) hstk (by show 2 * 0 + _ ≤ 8; have := am_sumC b z st 8 hst; omega) hd (by omega)
  exact am_back hrun hS0 (fun H1 locs1 hP1 hS1 => kk H1 locs1 ls (cells + (h'.length - h.length)) (slots + (am_sl h' - am_sl h)) hl hP1 hS1 (by omega) (by omega))
end CALL
