/-! ===== the claim's walk, out of what the functional text of the law answers ===== -/
/-- what is left: the functional text of the law's loop comes to 1 on every script -/
def PureLaw : Prop := ∀ (L : Nat) (xs : Nat → Int), L ≤ 3072 → (∀ j, ir (xs j)) → ∃ g', l_law L xs 600 0 0 g_0 = some (1, g')
theorem am_K0 {s : State} {args : Array Value} (hts : ∀ w ∈ am_TS, w.before args s = true) : ∃ (D : va_G) (tA : FieldType → ClassId), va_K D am_cl (am_tys tA) s := by
  have H : ∀ c : Nat, ∃ q : ClassId × (Nat → Nat), ∀ r : vw_C, am_cl[c]? = some r → u_Kn s r.1 r.2.1 r.2.2 q.1 q.2 := by
    intro c
    cases hc : am_cl[c]? with
    | none => exact ⟨(0, fun _ => 0), fun r hr => by cases hr⟩
    | some r =>
      obtain ⟨C, T, N⟩ := r
      obtain ⟨cC, iS, h⟩ := u_known hts (am_cl_ws hc) (hts _ (am_cl_inst hc))
      exact ⟨(cC, iS), fun r hr => by cases hr; exact h⟩
  have A : ∀ ty : FieldType, Jvm.Cond.arrayClass ty ∈ am_TS → ∃ cA : ClassId, ArrOfT s cA ty ∧ s.vm.findClass ("[" ++ ty.toString) = some cA := by
    intro ty hty
    obtain ⟨cA, kA, comp, h1, h2, h3⟩ := Cond.arrayClass_spec (hts _ hty)
    exact ⟨cA, fun n z => ⟨fun k h => (by cases h), kA, h2, comp, h3⟩, h1⟩
  obtain ⟨c1, a1, b1⟩ := A .int am_TS_i
  obtain ⟨c2, a2, b2⟩ := A .long am_TS_l
  obtain ⟨c3, a3, b3⟩ := A .byte am_TS_b
  obtain ⟨c4, a4, b4⟩ := A .boolean am_TS_z
  refine ⟨(fun c => (Classical.choose (H c)).1, fun c => (Classical.choose (H c)).2), fun ty => match ty with | .int => c1 | .long => c2 | .byte => c3 | .boolean => c4 | _ => 0, fun c q hq => Classical.choose_spec (H c) q hq, fun k q hk => ?_⟩
  match k, hk with
  | 0, hk => cases hk; exact ⟨a1, b1⟩
  | 1, hk => cases hk; exact ⟨a2, b2⟩
  | 2, hk => cases hk; exact ⟨a3, b3⟩
  | 3, hk => cases hk; exact ⟨a4, b4⟩
  | _ + 4, hk => cases hk
set_option maxRecDepth 100000 in
set_option maxHeartbeats 4000000 in
/-- from the law's entry to its end -/
theorem am_lawGo {L : Nat} {xs : Nat → Int} {g' : G2} {r : Int} (h : l_law L xs 600 0 0 g_0 = some (r, g')) : ∃ pc' lv', decode (am_bytes m_law) pc' = .ok (.ireturn, 1) ∧ Go 11 600000 7302250 L xs m_law 0 [some (vR 0), none, none, none] [] [] pc' lv' [vI r] (hp g') := by
  obtain ⟨pc', lv', h1, h2⟩ := rl_law L xs 0 600 0 g_0 r g' h rfl
  refine ⟨pc', lv', h1, ?_⟩
  rw [hp_0] at h2
  have p1 := Go.path (d := 11) (N := 600000) (S := 7302250) (L := L) (xs := xs) (lv := [some (vR 0), none, none, none]) (st := []) (h := ([] : am_H)) (pc := 0) ok_law O1_law 2 [] rfl ⟨by decide, trivial⟩ rfl
  have d1 := am_dec1 ok_law (pc := 4) (ins := .invokespecial 9) rfl (Nat.succ_ne_zero _)
  have p2 := Go.callI (d := 10) (N := 600000) (S := 7302250) (L := L) (xs := xs) (mid := m_law) (lv := [some (vR 0), none, none, none]) (st := [vR 1]) (as := []) (r := 0) d1.1 ml_W_9 cf_L_init (kc_13 7) (Nat.le_of_ble_eq_true rfl) rfl (by decide) (by decide)
  have p3 := Go.path (d := 11) (N := 600000) (S := 7302250) (L := L) (xs := xs) (lv := [some (vR 0), none, none, none]) (st := [vR 1]) (h := hou_13) (pc := 7) ok_law O1_law 3 [] rfl ⟨by decide, trivial⟩ rfl
  have d2 := am_dec1 ok_law (pc := 12) (ins := .invokespecial 12) rfl (Nat.succ_ne_zero _)
  have p4 := Go.callI (d := 10) (N := 600000) (S := 7302250) (L := L) (xs := xs) (mid := m_law) (lv := [some (vR 0), some (vR 1), none, none]) (st := [vR 50]) (as := []) (r := 49) d2.1 ml_W_12 cf_M_init (kc_14 10) (Nat.le_of_ble_eq_true rfl) rfl (by decide) (by decide)
  have p5 := Go.path (d := 11) (N := 600000) (S := 7302250) (L := L) (xs := xs) (lv := [some (vR 0), some (vR 1), none, none]) (st := [vR 50]) (h := hou_14) (pc := 15) ok_law O1_law 3 [] rfl trivial rfl
  exact (Go.trans p1 (Go.trans p2 (Go.trans p3 (Go.trans p4 (Go.trans p5 h2)))))
