/-! ===== the law's loop ===== -/
def RtL (L : Nat) (xs : Nat → Int) (d pc : Nat) (lv : am_L) (st : List am_V) (g : G2) (r : Int) (g' : G2) : Prop := lv.length = am_maxL m_law → ∃ pc' lv', decode (am_bytes m_law) pc' = .ok (.ireturn, 1) ∧ Go d 600000 7302250 L xs m_law pc lv st (hp g) pc' lv' [vI r] (hp g')
section RTL
variable {L : Nat} {xs : Nat → Int} {d : Nat} {mid' : am_M} {cd : Nat → Option am_I} {pc pc' nx u v : Nat} {lv lv' : am_L} {st st' : List am_V} {g g1 g' : G2} {r : Int} {res : Option am_V} {P : Prop}
theorem RtL.path (hcd : am_CD m_law cd) (n : Nat) (ch : List Nat) (hp : am_path cd O2 600000 7302250 L xs m_law n ch pc lv st g = some (pc', lv', st', g1, P)) (hP : P) (k : RtL L xs d pc' lv' st' g1 r g') : RtL L xs d pc lv st g r g' := by
  intro hl
  obtain ⟨g2, l2⟩ := am_path_ok (d := d) hcd O2_law n ch pc lv st g pc' lv' st' g1 P hl hp hP
  obtain ⟨pc2, lv2, h1, h2⟩ := k l2
  exact ⟨pc2, lv2, h1, g2.trans h2⟩
theorem RtL.retZ (hcd : am_CD m_law cd) {x : Int} (_ : x = 0 ∨ x = 1) (hc : cd pc = some (.ireturn, nx, u, v)) (_ : am_ret m_law = some .boolean) : RtL L xs d pc lv [vI x] g x g := fun _ => ⟨pc, lv, (am_dec1 hcd hc (Nat.succ_ne_zero _)).1, Go.rfl'⟩
theorem RtL.weak {lv0 : am_L} (k : RtL L xs d pc lv0 st g r g') (hle : am_le lv0 lv) : RtL L xs d pc lv st g r g' := by
  intro hl
  obtain ⟨pc2, lv2, h1, h2⟩ := k (by rw [am_le_len hle]; exact hl)
  exact ⟨pc2, lv2, h1, (Go.weak hle).trans h2⟩
theorem RtL.callV (hcd : am_CD m_law cd) {idx : Nat} (hc : cd pc = some (.invokevirtual idx, nx, u, v)) (hk : Jvm.Cond.methodLink (am_own m_law) idx (am_y mid') ∈ am_TS) (as : List am_V) (cf : am_cfV mid' as.length) {k ci nF : Nat} {T : u_T} (ho : o2_cls g k = some ci) (hcl : am_cl[ci]? = some ((am_y mid').cls, T, nF)) (C : C2 d mid' (vR (k + 1) :: as) g res g1) (hst : am_sum st ≤ 8) (kk : RtL L xs (d + 1) nx lv (res.toList ++ st) g1 r g') : RtL L xs (d + 1) pc lv (as.reverse ++ vR (k + 1) :: st) g r g' := by
  intro hl
  obtain ⟨h1, h2⟩ := am_dec1 hcd hc (Nat.succ_ne_zero _)
  obtain ⟨fs, hf⟩ := O2_law.2.2.2.2.2.2 g k ci ho
  obtain ⟨pc2, lv2, h3, h4⟩ := kk hl
  refine ⟨pc2, lv2, h3, (Go.callV h1 hk cf hcl hf C hst hl (by rw [hp_len]; omega) (by rw [hp_sl]; omega)).trans ?_⟩
  have h2 : nx = pc + 3 := h2
  rw [← h2]; exact h4
end RTL
def b_law_0 (L : Nat) (xs : Nat → Int) (K : Nat → Int → G2 → Option (Int × G2)) (i3 : Int) (g : G2) : Option (Int × G2) :=
  if ir i3 then
  if ir ((L : Int) - 6) then
  if ((L : Int) - 6) < i3 then
    some (1, g)
  else
    if 0 ≤ i3 ∧ i3 < (L : Int) ∧ (L : Int) < 2147483648 then
    if (am_and (xs (i3).toNat) 15) = 0 then
      if 0 ≤ (i3 + 1) ∧ (i3 + 1) < (L : Int) ∧ (L : Int) < 2147483648 then
      if 0 ≤ (i3 + 2) ∧ (i3 + 2) < (L : Int) ∧ (L : Int) < 2147483648 then
      if 0 ≤ (i3 + 3) ∧ (i3 + 3) < (L : Int) ∧ (L : Int) < 2147483648 then
      bd (f_L_feed_1 ((am_shl (am_i2l (xs ((i3 + 1)).toNat)) 32) ||| ((am_i2l (xs ((i3 + 2)).toNat)) &&& (Int64.ofNat 4294967295))) (xs ((i3 + 3)).toNat) g) fun r8 g8 =>
      bd (f_M_feed_50 ((am_shl (am_i2l (xs ((i3 + 1)).toNat)) 32) ||| ((am_i2l (xs ((i3 + 2)).toNat)) &&& (Int64.ofNat 4294967295))) (xs ((i3 + 3)).toNat) g8) fun r9 g9 =>
      if ir r8 then
      if ir r9 then
      if r8 = r9 then
        K 0 (i3 + 6) g9
      else
        some (0, g9)
      else none
      else none
      else none
      else none
      else none
    else
    if (am_and (xs (i3).toNat) 15) = 1 then
      bd (f_L_clear_1 g) fun r13 g13 =>
      bd (f_M_clear_50 g13) fun r14 g14 =>
      if ir r13 then
      if ir r14 then
      if r13 = r14 then
        K 0 (i3 + 6) g14
      else
        some (0, g14)
      else none
      else none
    else
    if (am_and (xs (i3).toNat) 15) = 2 then
      bd (f_L_read_1 g) fun r18 g18 =>
      bd (f_M_read_50 g18) fun r19 g19 =>
      if ir r18 then
      if ir r19 then
      if r18 = r19 then
        K 0 (i3 + 6) g19
      else
        some (0, g19)
      else none
      else none
    else
    if (am_and (xs (i3).toNat) 15) = 3 then
      bd (f_L_place_1 g) fun r23 g23 =>
      bd (f_M_place_50 g23) fun r24 g24 =>
      if ir r23 then
      if ir r24 then
      if r23 = r24 then
        K 0 (i3 + 6) g24
      else
        some (0, g24)
      else none
      else none
    else
    if (am_and (xs (i3).toNat) 15) = 4 then
      if 0 ≤ (i3 + 1) ∧ (i3 + 1) < (L : Int) ∧ (L : Int) < 2147483648 then
      bd (f_L_count_1 (xs ((i3 + 1)).toNat) g) fun r29 g29 =>
      bd (f_M_count_50 (xs ((i3 + 1)).toNat) g29) fun r30 g30 =>
      if ir r29 then
      if ir r30 then
      if r29 = r30 then
        K 0 (i3 + 6) g30
      else
        some (0, g30)
      else none
      else none
      else none
    else
    if (am_and (xs (i3).toNat) 15) = 5 then
      if 0 ≤ (i3 + 1) ∧ (i3 + 1) < (L : Int) ∧ (L : Int) < 2147483648 then
      bd (f_L_label_1 (xs ((i3 + 1)).toNat) g) fun r35 g35 =>
      bd (f_M_label_50 (xs ((i3 + 1)).toNat) g35) fun r36 g36 =>
      if r35 = r36 then
        K 0 (i3 + 6) g36
      else
        some (0, g36)
      else none
    else
    if (am_and (xs (i3).toNat) 15) = 6 then
      if 0 ≤ (i3 + 1) ∧ (i3 + 1) < (L : Int) ∧ (L : Int) < 2147483648 then
      if 0 ≤ (i3 + 2) ∧ (i3 + 2) < (L : Int) ∧ (L : Int) < 2147483648 then
      bd (f_L_symbol_1 (xs ((i3 + 1)).toNat) (xs ((i3 + 2)).toNat) g) fun r40 g40 =>
      bd (f_M_symbol_50 (xs ((i3 + 1)).toNat) (xs ((i3 + 2)).toNat) g40) fun r41 g41 =>
      if r40 = r41 then
        K 0 (i3 + 6) g41
      else
        some (0, g41)
      else none
      else none
    else
    if (am_and (xs (i3).toNat) 15) = 7 then
      if 0 ≤ (i3 + 1) ∧ (i3 + 1) < (L : Int) ∧ (L : Int) < 2147483648 then
      if 0 ≤ (i3 + 2) ∧ (i3 + 2) < (L : Int) ∧ (L : Int) < 2147483648 then
      bd (f_L_hypothesis_1 (xs ((i3 + 1)).toNat) (xs ((i3 + 2)).toNat) g) fun r45 g45 =>
      bd (f_M_hypothesis_50 (xs ((i3 + 1)).toNat) (xs ((i3 + 2)).toNat) g45) fun r46 g46 =>
      if r45 = r46 then
        K 0 (i3 + 6) g46
      else
        some (0, g46)
      else none
      else none
    else
    if (am_and (xs (i3).toNat) 15) = 8 then
      if 0 ≤ (i3 + 1) ∧ (i3 + 1) < (L : Int) ∧ (L : Int) < 2147483648 then
      bd (f_L_pairs_1 (xs ((i3 + 1)).toNat) g) fun r49 g49 =>
      bd (f_M_pairs_50 (xs ((i3 + 1)).toNat) g49) fun r50 g50 =>
      if ir r49 then
      if ir r50 then
      if r49 = r50 then
        K 0 (i3 + 6) g50
      else
        some (0, g50)
      else none
      else none
      else none
    else
    if (am_and (xs (i3).toNat) 15) = 9 then
      if 0 ≤ (i3 + 1) ∧ (i3 + 1) < (L : Int) ∧ (L : Int) < 2147483648 then
      if 0 ≤ (i3 + 2) ∧ (i3 + 2) < (L : Int) ∧ (L : Int) < 2147483648 then
      if 0 ≤ (i3 + 3) ∧ (i3 + 3) < (L : Int) ∧ (L : Int) < 2147483648 then
      if 0 ≤ (i3 + 4) ∧ (i3 + 4) < (L : Int) ∧ (L : Int) < 2147483648 then
      if 0 ≤ (i3 + 5) ∧ (i3 + 5) < (L : Int) ∧ (L : Int) < 2147483648 then
      bd (f_L_apart_1 (xs ((i3 + 1)).toNat) ((am_shl (am_i2l (xs ((i3 + 2)).toNat)) 32) ||| ((am_i2l (xs ((i3 + 3)).toNat)) &&& (Int64.ofNat 4294967295))) ((am_shl (am_i2l (xs ((i3 + 4)).toNat)) 32) ||| ((am_i2l (xs ((i3 + 5)).toNat)) &&& (Int64.ofNat 4294967295))) g) fun r59 g59 =>
      bd (f_M_apart_50 (xs ((i3 + 1)).toNat) ((am_shl (am_i2l (xs ((i3 + 2)).toNat)) 32) ||| ((am_i2l (xs ((i3 + 3)).toNat)) &&& (Int64.ofNat 4294967295))) ((am_shl (am_i2l (xs ((i3 + 4)).toNat)) 32) ||| ((am_i2l (xs ((i3 + 5)).toNat)) &&& (Int64.ofNat 4294967295))) g59) fun r60 g60 =>
      if ir r59 then
      if ir r60 then
      if r59 = r60 then
        K 0 (i3 + 6) g60
      else
        some (0, g60)
      else none
      else none
      else none
      else none
      else none
      else none
      else none
    else
    if (am_and (xs (i3).toNat) 15) = 10 then
      if 0 ≤ (i3 + 1) ∧ (i3 + 1) < (L : Int) ∧ (L : Int) < 2147483648 then
      bd (f_L_steps_1 (xs ((i3 + 1)).toNat) g) fun r65 g65 =>
      bd (f_M_steps_50 (xs ((i3 + 1)).toNat) g65) fun r66 g66 =>
      if ir r65 then
      if ir r66 then
      if r65 = r66 then
        K 0 (i3 + 6) g66
      else
        some (0, g66)
      else none
      else none
      else none
    else
    if (am_and (xs (i3).toNat) 15) = 11 then
      if 0 ≤ (i3 + 1) ∧ (i3 + 1) < (L : Int) ∧ (L : Int) < 2147483648 then
      bd (f_L_depth_1 (xs ((i3 + 1)).toNat) g) fun r71 g71 =>
      bd (f_M_depth_50 (xs ((i3 + 1)).toNat) g71) fun r72 g72 =>
      if ir r71 then
      if ir r72 then
      if r71 = r72 then
        K 0 (i3 + 6) g72
      else
        some (0, g72)
      else none
      else none
      else none
    else
    if (am_and (xs (i3).toNat) 15) = 12 then
      if 0 ≤ (i3 + 1) ∧ (i3 + 1) < (L : Int) ∧ (L : Int) < 2147483648 then
      if 0 ≤ (i3 + 2) ∧ (i3 + 2) < (L : Int) ∧ (L : Int) < 2147483648 then
      bd (f_L_uses_1 (xs ((i3 + 1)).toNat) (xs ((i3 + 2)).toNat) g) fun r78 g78 =>
      bd (f_M_uses_50 (xs ((i3 + 1)).toNat) (xs ((i3 + 2)).toNat) g78) fun r79 g79 =>
      if ir r78 then
      if ir r79 then
      if r78 = r79 then
        K 0 (i3 + 6) g79
      else
        some (0, g79)
      else none
      else none
      else none
      else none
    else
    if (am_and (xs (i3).toNat) 15) = 13 then
      if 0 ≤ (i3 + 1) ∧ (i3 + 1) < (L : Int) ∧ (L : Int) < 2147483648 then
      bd (f_L_proved_1 (xs ((i3 + 1)).toNat) g) fun r84 g84 =>
      bd (f_M_proved_50 (xs ((i3 + 1)).toNat) g84) fun r85 g85 =>
      if ir r84 then
      if ir r85 then
      if r84 = r85 then
        K 0 (i3 + 6) g85
      else
        some (0, g85)
      else none
      else none
      else none
    else
      K 0 (i3 + 6) g
    else none
  else none
  else none
def l_law (L : Nat) (xs : Nat → Int) : Nat → Nat → Int → G2 → Option (Int × G2)
  | 0 => fun _ _ _ => none
  | n + 1 => fun _ i3 g => b_law_0 L xs (l_law L xs n) i3 g
set_option maxHeartbeats 4000000 in
set_option maxRecDepth 100000 in
theorem rl_law (L : Nat) (xs : Nat → Int) (d : Nat) : ∀ (n : Nat) (i3 : Int) (g : G2) (r : Int) (g' : G2), l_law L xs n 0 i3 g = some (r, g') → RtL L xs (d + 11) 18 [some (vR 0), some (vR 1), some (vR 50), some (vI i3)] [] g r g' := by
  intro n
  induction n with
  | zero => intro i3 g r g'; exact fun hf => by cases hf
  | succ n ih =>
    intro i3 g r g' hf
    replace hf : b_law_0 L xs (l_law L xs n) i3 g = some (r, g') := hf
    unfold b_law_0 at hf
    have h1 : ir i3 := by
      by_cases q : ir i3
      · exact q
      · rw [if_neg q] at hf; cases hf
    rw [if_pos h1] at hf
    have h2 : ir ((L : Int) - 6) := by
      by_cases q : ir ((L : Int) - 6)
      · exact q
      · rw [if_neg q] at hf; cases hf
    rw [if_pos h2] at hf
    by_cases h3 : ((L : Int) - 6) < i3
    · rw [if_pos h3] at hf
      refine RtL.path ok_law 6 [1] rfl ⟨⟨⟨h1, h2⟩, h3⟩, trivial⟩ ?_
      cases hf
      refine RtL.path ok_law 1 [] rfl trivial ?_
      exact RtL.retZ ok_law (show (1 : Int) = 0 ∨ (1 : Int) = 1 by decide) rfl rfl
    · rw [if_neg h3] at hf
      refine RtL.path ok_law 6 [0] rfl ⟨⟨⟨h1, h2⟩, (Int.not_lt.mp h3)⟩, trivial⟩ ?_
      have h4 : 0 ≤ i3 ∧ i3 < (L : Int) ∧ (L : Int) < 2147483648 := by
        by_cases q : 0 ≤ i3 ∧ i3 < (L : Int) ∧ (L : Int) < 2147483648
        · exact q
        · rw [if_neg q] at hf; cases hf
      rw [if_pos h4] at hf
      by_cases h89_0 : (am_and (xs (i3).toNat) 15) = 0
      · rw [if_pos h89_0] at hf
        refine RtL.path ok_law 6 [0] rfl ⟨h4, ⟨(am_andIn _ _), (show (am_and (xs (i3).toNat) 15) = 0 + ((0 : Nat) : Int) by omega), (show (am_and (xs (i3).toNat) 15) ≤ 13 by omega), by decide⟩, trivial⟩ ?_
        have h5 : 0 ≤ (i3 + 1) ∧ (i3 + 1) < (L : Int) ∧ (L : Int) < 2147483648 := by
          by_cases q : 0 ≤ (i3 + 1) ∧ (i3 + 1) < (L : Int) ∧ (L : Int) < 2147483648
          · exact q
          · rw [if_neg q] at hf; cases hf
        rw [if_pos h5] at hf
        have h6 : 0 ≤ (i3 + 2) ∧ (i3 + 2) < (L : Int) ∧ (L : Int) < 2147483648 := by
          by_cases q : 0 ≤ (i3 + 2) ∧ (i3 + 2) < (L : Int) ∧ (L : Int) < 2147483648
          · exact q
          · rw [if_neg q] at hf; cases hf
        rw [if_pos h6] at hf
        have h7 : 0 ≤ (i3 + 3) ∧ (i3 + 3) < (L : Int) ∧ (L : Int) < 2147483648 := by
          by_cases q : 0 ≤ (i3 + 3) ∧ (i3 + 3) < (L : Int) ∧ (L : Int) < 2147483648
          · exact q
          · rw [if_neg q] at hf; cases hf
        rw [if_pos h7] at hf
        obtain ⟨r8, g8, e8, hf⟩ := bd_inv hf
        refine RtL.path ok_law 23 [] rfl ⟨h5, h6, h7, trivial⟩ ?_
        refine RtL.callV ok_law rfl ml_W_15 [vL _, vI _] cf_L_feed rfl rfl (c_L_feed_1 (d + 9) _ _ _ _ _ e8) (Nat.le_of_ble_eq_true rfl) ?_
        obtain ⟨r9, g9, e9, hf⟩ := bd_inv hf
        refine RtL.path ok_law 23 [] rfl ⟨h5, h6, h7, trivial⟩ ?_
        refine RtL.callV ok_law rfl ml_W_19 [vL _, vI _] cf_M_feed rfl rfl (c_M_feed_50 (d + 10) _ _ _ _ _ e9) (Nat.le_of_ble_eq_true rfl) ?_
        have h10 : ir r8 := by
          by_cases q : ir r8
          · exact q
          · rw [if_neg q] at hf; cases hf
        rw [if_pos h10] at hf
        have h11 : ir r9 := by
          by_cases q : ir r9
          · exact q
          · rw [if_neg q] at hf; cases hf
        rw [if_pos h11] at hf
        by_cases h12 : r8 = r9
        · rw [if_pos h12] at hf
          refine RtL.path ok_law 1 [1] rfl ⟨⟨⟨h10, h11⟩, h12⟩, trivial⟩ ?_
          refine RtL.path ok_law 2 [] rfl trivial ?_
          exact RtL.weak ((ih _ _ _ _) hf) ⟨rfl, rfl, rfl, rfl, trivial⟩
        · rw [if_neg h12] at hf
          refine RtL.path ok_law 1 [0] rfl ⟨⟨⟨h10, h11⟩, h12⟩, trivial⟩ ?_
          cases hf
          refine RtL.path ok_law 1 [] rfl trivial ?_
          exact RtL.retZ ok_law (show (0 : Int) = 0 ∨ (0 : Int) = 1 by decide) rfl rfl
      · rw [if_neg h89_0] at hf
        by_cases h89_1 : (am_and (xs (i3).toNat) 15) = 1
        · rw [if_pos h89_1] at hf
          refine RtL.path ok_law 6 [1] rfl ⟨h4, ⟨(am_andIn _ _), (show (am_and (xs (i3).toNat) 15) = 0 + ((1 : Nat) : Int) by omega), (show (am_and (xs (i3).toNat) 15) ≤ 13 by omega), by decide⟩, trivial⟩ ?_
          obtain ⟨r13, g13, e13, hf⟩ := bd_inv hf
          refine RtL.path ok_law 1 [] rfl trivial ?_
          refine RtL.callV ok_law rfl ml_W_20 [] cf_L_clear rfl rfl (c_L_clear_1 (d + 9) _ _ _ e13) (Nat.le_of_ble_eq_true rfl) ?_
          obtain ⟨r14, g14, e14, hf⟩ := bd_inv hf
          refine RtL.path ok_law 1 [] rfl trivial ?_
          refine RtL.callV ok_law rfl ml_W_24 [] cf_M_clear rfl rfl (c_M_clear_50 (d + 10) _ _ _ e14) (Nat.le_of_ble_eq_true rfl) ?_
          have h15 : ir r13 := by
            by_cases q : ir r13
            · exact q
            · rw [if_neg q] at hf; cases hf
          rw [if_pos h15] at hf
          have h16 : ir r14 := by
            by_cases q : ir r14
            · exact q
            · rw [if_neg q] at hf; cases hf
          rw [if_pos h16] at hf
          by_cases h17 : r13 = r14
          · rw [if_pos h17] at hf
            refine RtL.path ok_law 1 [1] rfl ⟨⟨⟨h15, h16⟩, h17⟩, trivial⟩ ?_
            refine RtL.path ok_law 2 [] rfl trivial ?_
            exact RtL.weak ((ih _ _ _ _) hf) ⟨rfl, rfl, rfl, rfl, trivial⟩
          · rw [if_neg h17] at hf
            refine RtL.path ok_law 1 [0] rfl ⟨⟨⟨h15, h16⟩, h17⟩, trivial⟩ ?_
            cases hf
            refine RtL.path ok_law 1 [] rfl trivial ?_
            exact RtL.retZ ok_law (show (0 : Int) = 0 ∨ (0 : Int) = 1 by decide) rfl rfl
        · rw [if_neg h89_1] at hf
          by_cases h89_2 : (am_and (xs (i3).toNat) 15) = 2
          · rw [if_pos h89_2] at hf
            refine RtL.path ok_law 6 [2] rfl ⟨h4, ⟨(am_andIn _ _), (show (am_and (xs (i3).toNat) 15) = 0 + ((2 : Nat) : Int) by omega), (show (am_and (xs (i3).toNat) 15) ≤ 13 by omega), by decide⟩, trivial⟩ ?_
            obtain ⟨r18, g18, e18, hf⟩ := bd_inv hf
            refine RtL.path ok_law 1 [] rfl trivial ?_
            refine RtL.callV ok_law rfl ml_W_25 [] cf_L_read rfl rfl (c_L_read_1 (d + 3) _ _ _ e18) (Nat.le_of_ble_eq_true rfl) ?_
            obtain ⟨r19, g19, e19, hf⟩ := bd_inv hf
            refine RtL.path ok_law 1 [] rfl trivial ?_
            refine RtL.callV ok_law rfl ml_W_28 [] cf_M_read rfl rfl (c_M_read_50 d _ _ _ e19) (Nat.le_of_ble_eq_true rfl) ?_
            have h20 : ir r18 := by
              by_cases q : ir r18
              · exact q
              · rw [if_neg q] at hf; cases hf
            rw [if_pos h20] at hf
            have h21 : ir r19 := by
              by_cases q : ir r19
              · exact q
              · rw [if_neg q] at hf; cases hf
            rw [if_pos h21] at hf
            by_cases h22 : r18 = r19
            · rw [if_pos h22] at hf
              refine RtL.path ok_law 1 [1] rfl ⟨⟨⟨h20, h21⟩, h22⟩, trivial⟩ ?_
              refine RtL.path ok_law 2 [] rfl trivial ?_
              exact RtL.weak ((ih _ _ _ _) hf) ⟨rfl, rfl, rfl, rfl, trivial⟩
            · rw [if_neg h22] at hf
              refine RtL.path ok_law 1 [0] rfl ⟨⟨⟨h20, h21⟩, h22⟩, trivial⟩ ?_
              cases hf
              refine RtL.path ok_law 1 [] rfl trivial ?_
              exact RtL.retZ ok_law (show (0 : Int) = 0 ∨ (0 : Int) = 1 by decide) rfl rfl
          · rw [if_neg h89_2] at hf
            by_cases h89_3 : (am_and (xs (i3).toNat) 15) = 3
            · rw [if_pos h89_3] at hf
              refine RtL.path ok_law 6 [3] rfl ⟨h4, ⟨(am_andIn _ _), (show (am_and (xs (i3).toNat) 15) = 0 + ((3 : Nat) : Int) by omega), (show (am_and (xs (i3).toNat) 15) ≤ 13 by omega), by decide⟩, trivial⟩ ?_
              obtain ⟨r23, g23, e23, hf⟩ := bd_inv hf
              refine RtL.path ok_law 1 [] rfl trivial ?_
              refine RtL.callV ok_law rfl ml_W_29 [] cf_L_place rfl rfl (c_L_place_1 (d + 10) _ _ _ e23) (Nat.le_of_ble_eq_true rfl) ?_
              obtain ⟨r24, g24, e24, hf⟩ := bd_inv hf
              refine RtL.path ok_law 1 [] rfl trivial ?_
              refine RtL.callV ok_law rfl ml_W_32 [] cf_M_place rfl rfl (c_M_place_50 (d + 10) _ _ _ e24) (Nat.le_of_ble_eq_true rfl) ?_
              have h25 : ir r23 := by
                by_cases q : ir r23
                · exact q
                · rw [if_neg q] at hf; cases hf
              rw [if_pos h25] at hf
              have h26 : ir r24 := by
                by_cases q : ir r24
                · exact q
                · rw [if_neg q] at hf; cases hf
              rw [if_pos h26] at hf
              by_cases h27 : r23 = r24
              · rw [if_pos h27] at hf
                refine RtL.path ok_law 1 [1] rfl ⟨⟨⟨h25, h26⟩, h27⟩, trivial⟩ ?_
                refine RtL.path ok_law 2 [] rfl trivial ?_
                exact RtL.weak ((ih _ _ _ _) hf) ⟨rfl, rfl, rfl, rfl, trivial⟩
              · rw [if_neg h27] at hf
                refine RtL.path ok_law 1 [0] rfl ⟨⟨⟨h25, h26⟩, h27⟩, trivial⟩ ?_
                cases hf
                refine RtL.path ok_law 1 [] rfl trivial ?_
                exact RtL.retZ ok_law (show (0 : Int) = 0 ∨ (0 : Int) = 1 by decide) rfl rfl
            · rw [if_neg h89_3] at hf
              by_cases h89_4 : (am_and (xs (i3).toNat) 15) = 4
              · rw [if_pos h89_4] at hf
                refine RtL.path ok_law 6 [4] rfl ⟨h4, ⟨(am_andIn _ _), (show (am_and (xs (i3).toNat) 15) = 0 + ((4 : Nat) : Int) by omega), (show (am_and (xs (i3).toNat) 15) ≤ 13 by omega), by decide⟩, trivial⟩ ?_
                have h28 : 0 ≤ (i3 + 1) ∧ (i3 + 1) < (L : Int) ∧ (L : Int) < 2147483648 := by
                  by_cases q : 0 ≤ (i3 + 1) ∧ (i3 + 1) < (L : Int) ∧ (L : Int) < 2147483648
                  · exact q
                  · rw [if_neg q] at hf; cases hf
                rw [if_pos h28] at hf
                obtain ⟨r29, g29, e29, hf⟩ := bd_inv hf
                refine RtL.path ok_law 6 [] rfl ⟨h28, trivial⟩ ?_
                refine RtL.callV ok_law rfl ml_W_33 [vI _] cf_L_count rfl rfl (c_L_count_1 (d + 9) _ _ _ _ e29) (Nat.le_of_ble_eq_true rfl) ?_
                obtain ⟨r30, g30, e30, hf⟩ := bd_inv hf
                refine RtL.path ok_law 6 [] rfl ⟨h28, trivial⟩ ?_
                refine RtL.callV ok_law rfl ml_W_37 [vI _] cf_M_count rfl rfl (c_M_count_50 (d + 9) _ _ _ _ e30) (Nat.le_of_ble_eq_true rfl) ?_
                have h31 : ir r29 := by
                  by_cases q : ir r29
                  · exact q
                  · rw [if_neg q] at hf; cases hf
                rw [if_pos h31] at hf
                have h32 : ir r30 := by
                  by_cases q : ir r30
                  · exact q
                  · rw [if_neg q] at hf; cases hf
                rw [if_pos h32] at hf
                by_cases h33 : r29 = r30
                · rw [if_pos h33] at hf
                  refine RtL.path ok_law 1 [1] rfl ⟨⟨⟨h31, h32⟩, h33⟩, trivial⟩ ?_
                  refine RtL.path ok_law 2 [] rfl trivial ?_
                  exact RtL.weak ((ih _ _ _ _) hf) ⟨rfl, rfl, rfl, rfl, trivial⟩
                · rw [if_neg h33] at hf
                  refine RtL.path ok_law 1 [0] rfl ⟨⟨⟨h31, h32⟩, h33⟩, trivial⟩ ?_
                  cases hf
                  refine RtL.path ok_law 1 [] rfl trivial ?_
                  exact RtL.retZ ok_law (show (0 : Int) = 0 ∨ (0 : Int) = 1 by decide) rfl rfl
              · rw [if_neg h89_4] at hf
                by_cases h89_5 : (am_and (xs (i3).toNat) 15) = 5
                · rw [if_pos h89_5] at hf
                  refine RtL.path ok_law 6 [5] rfl ⟨h4, ⟨(am_andIn _ _), (show (am_and (xs (i3).toNat) 15) = 0 + ((5 : Nat) : Int) by omega), (show (am_and (xs (i3).toNat) 15) ≤ 13 by omega), by decide⟩, trivial⟩ ?_
                  have h34 : 0 ≤ (i3 + 1) ∧ (i3 + 1) < (L : Int) ∧ (L : Int) < 2147483648 := by
                    by_cases q : 0 ≤ (i3 + 1) ∧ (i3 + 1) < (L : Int) ∧ (L : Int) < 2147483648
                    · exact q
                    · rw [if_neg q] at hf; cases hf
                  rw [if_pos h34] at hf
                  obtain ⟨r35, g35, e35, hf⟩ := bd_inv hf
                  refine RtL.path ok_law 6 [] rfl ⟨h34, trivial⟩ ?_
                  refine RtL.callV ok_law rfl ml_W_38 [vI _] cf_L_label rfl rfl (c_L_label_1 (d + 9) _ _ _ _ e35) (Nat.le_of_ble_eq_true rfl) ?_
                  obtain ⟨r36, g36, e36, hf⟩ := bd_inv hf
                  refine RtL.path ok_law 6 [] rfl ⟨h34, trivial⟩ ?_
                  refine RtL.callV ok_law rfl ml_W_42 [vI _] cf_M_label rfl rfl (c_M_label_50 (d + 9) _ _ _ _ e36) (Nat.le_of_ble_eq_true rfl) ?_
                  by_cases h37 : r35 = r36
                  · rw [if_pos h37] at hf
                    refine RtL.path ok_law 2 [1] rfl ⟨⟨(am_cmpIn _ _), (am_cmp0.mpr h37)⟩, trivial⟩ ?_
                    refine RtL.path ok_law 2 [] rfl trivial ?_
                    exact RtL.weak ((ih _ _ _ _) hf) ⟨rfl, rfl, rfl, rfl, trivial⟩
                  · rw [if_neg h37] at hf
                    refine RtL.path ok_law 2 [0] rfl ⟨⟨(am_cmpIn _ _), (fun q => h37 (am_cmp0.mp q))⟩, trivial⟩ ?_
                    cases hf
                    refine RtL.path ok_law 1 [] rfl trivial ?_
                    exact RtL.retZ ok_law (show (0 : Int) = 0 ∨ (0 : Int) = 1 by decide) rfl rfl
                · rw [if_neg h89_5] at hf
                  by_cases h89_6 : (am_and (xs (i3).toNat) 15) = 6
                  · rw [if_pos h89_6] at hf
                    refine RtL.path ok_law 6 [6] rfl ⟨h4, ⟨(am_andIn _ _), (show (am_and (xs (i3).toNat) 15) = 0 + ((6 : Nat) : Int) by omega), (show (am_and (xs (i3).toNat) 15) ≤ 13 by omega), by decide⟩, trivial⟩ ?_
                    have h38 : 0 ≤ (i3 + 1) ∧ (i3 + 1) < (L : Int) ∧ (L : Int) < 2147483648 := by
                      by_cases q : 0 ≤ (i3 + 1) ∧ (i3 + 1) < (L : Int) ∧ (L : Int) < 2147483648
                      · exact q
                      · rw [if_neg q] at hf; cases hf
                    rw [if_pos h38] at hf
                    have h39 : 0 ≤ (i3 + 2) ∧ (i3 + 2) < (L : Int) ∧ (L : Int) < 2147483648 := by
                      by_cases q : 0 ≤ (i3 + 2) ∧ (i3 + 2) < (L : Int) ∧ (L : Int) < 2147483648
                      · exact q
                      · rw [if_neg q] at hf; cases hf
                    rw [if_pos h39] at hf
                    obtain ⟨r40, g40, e40, hf⟩ := bd_inv hf
                    refine RtL.path ok_law 11 [] rfl ⟨h38, h39, trivial⟩ ?_
                    refine RtL.callV ok_law rfl ml_W_43 [vI _, vI _] cf_L_symbol rfl rfl (c_L_symbol_1 (d + 9) _ _ _ _ _ e40) (Nat.le_of_ble_eq_true rfl) ?_
                    obtain ⟨r41, g41, e41, hf⟩ := bd_inv hf
                    refine RtL.path ok_law 11 [] rfl ⟨h38, h39, trivial⟩ ?_
                    refine RtL.callV ok_law rfl ml_W_47 [vI _, vI _] cf_M_symbol rfl rfl (c_M_symbol_50 (d + 9) _ _ _ _ _ e41) (Nat.le_of_ble_eq_true rfl) ?_
                    by_cases h42 : r40 = r41
                    · rw [if_pos h42] at hf
                      refine RtL.path ok_law 2 [1] rfl ⟨⟨(am_cmpIn _ _), (am_cmp0.mpr h42)⟩, trivial⟩ ?_
                      refine RtL.path ok_law 2 [] rfl trivial ?_
                      exact RtL.weak ((ih _ _ _ _) hf) ⟨rfl, rfl, rfl, rfl, trivial⟩
                    · rw [if_neg h42] at hf
                      refine RtL.path ok_law 2 [0] rfl ⟨⟨(am_cmpIn _ _), (fun q => h42 (am_cmp0.mp q))⟩, trivial⟩ ?_
                      cases hf
                      refine RtL.path ok_law 1 [] rfl trivial ?_
                      exact RtL.retZ ok_law (show (0 : Int) = 0 ∨ (0 : Int) = 1 by decide) rfl rfl
                  · rw [if_neg h89_6] at hf
                    by_cases h89_7 : (am_and (xs (i3).toNat) 15) = 7
                    · rw [if_pos h89_7] at hf
                      refine RtL.path ok_law 6 [7] rfl ⟨h4, ⟨(am_andIn _ _), (show (am_and (xs (i3).toNat) 15) = 0 + ((7 : Nat) : Int) by omega), (show (am_and (xs (i3).toNat) 15) ≤ 13 by omega), by decide⟩, trivial⟩ ?_
                      have h43 : 0 ≤ (i3 + 1) ∧ (i3 + 1) < (L : Int) ∧ (L : Int) < 2147483648 := by
                        by_cases q : 0 ≤ (i3 + 1) ∧ (i3 + 1) < (L : Int) ∧ (L : Int) < 2147483648
                        · exact q
                        · rw [if_neg q] at hf; cases hf
                      rw [if_pos h43] at hf
                      have h44 : 0 ≤ (i3 + 2) ∧ (i3 + 2) < (L : Int) ∧ (L : Int) < 2147483648 := by
                        by_cases q : 0 ≤ (i3 + 2) ∧ (i3 + 2) < (L : Int) ∧ (L : Int) < 2147483648
                        · exact q
                        · rw [if_neg q] at hf; cases hf
                      rw [if_pos h44] at hf
                      obtain ⟨r45, g45, e45, hf⟩ := bd_inv hf
                      refine RtL.path ok_law 11 [] rfl ⟨h43, h44, trivial⟩ ?_
                      refine RtL.callV ok_law rfl ml_W_48 [vI _, vI _] cf_L_hypothesis rfl rfl (c_L_hypothesis_1 (d + 8) _ _ _ _ _ e45) (Nat.le_of_ble_eq_true rfl) ?_
                      obtain ⟨r46, g46, e46, hf⟩ := bd_inv hf
                      refine RtL.path ok_law 11 [] rfl ⟨h43, h44, trivial⟩ ?_
                      refine RtL.callV ok_law rfl ml_W_51 [vI _, vI _] cf_M_hypothesis rfl rfl (c_M_hypothesis_50 (d + 9) _ _ _ _ _ e46) (Nat.le_of_ble_eq_true rfl) ?_
                      by_cases h47 : r45 = r46
                      · rw [if_pos h47] at hf
                        refine RtL.path ok_law 2 [1] rfl ⟨⟨(am_cmpIn _ _), (am_cmp0.mpr h47)⟩, trivial⟩ ?_
                        refine RtL.path ok_law 2 [] rfl trivial ?_
                        exact RtL.weak ((ih _ _ _ _) hf) ⟨rfl, rfl, rfl, rfl, trivial⟩
                      · rw [if_neg h47] at hf
                        refine RtL.path ok_law 2 [0] rfl ⟨⟨(am_cmpIn _ _), (fun q => h47 (am_cmp0.mp q))⟩, trivial⟩ ?_
                        cases hf
                        refine RtL.path ok_law 1 [] rfl trivial ?_
                        exact RtL.retZ ok_law (show (0 : Int) = 0 ∨ (0 : Int) = 1 by decide) rfl rfl
                    · rw [if_neg h89_7] at hf
                      by_cases h89_8 : (am_and (xs (i3).toNat) 15) = 8
                      · rw [if_pos h89_8] at hf
                        refine RtL.path ok_law 6 [8] rfl ⟨h4, ⟨(am_andIn _ _), (show (am_and (xs (i3).toNat) 15) = 0 + ((8 : Nat) : Int) by omega), (show (am_and (xs (i3).toNat) 15) ≤ 13 by omega), by decide⟩, trivial⟩ ?_
                        have h48 : 0 ≤ (i3 + 1) ∧ (i3 + 1) < (L : Int) ∧ (L : Int) < 2147483648 := by
                          by_cases q : 0 ≤ (i3 + 1) ∧ (i3 + 1) < (L : Int) ∧ (L : Int) < 2147483648
                          · exact q
                          · rw [if_neg q] at hf; cases hf
                        rw [if_pos h48] at hf
                        obtain ⟨r49, g49, e49, hf⟩ := bd_inv hf
                        refine RtL.path ok_law 6 [] rfl ⟨h48, trivial⟩ ?_
                        refine RtL.callV ok_law rfl ml_W_52 [vI _] cf_L_pairs rfl rfl (c_L_pairs_1 (d + 9) _ _ _ _ e49) (Nat.le_of_ble_eq_true rfl) ?_
                        obtain ⟨r50, g50, e50, hf⟩ := bd_inv hf
                        refine RtL.path ok_law 6 [] rfl ⟨h48, trivial⟩ ?_
                        refine RtL.callV ok_law rfl ml_W_55 [vI _] cf_M_pairs rfl rfl (c_M_pairs_50 (d + 9) _ _ _ _ e50) (Nat.le_of_ble_eq_true rfl) ?_
                        have h51 : ir r49 := by
                          by_cases q : ir r49
                          · exact q
                          · rw [if_neg q] at hf; cases hf
                        rw [if_pos h51] at hf
                        have h52 : ir r50 := by
                          by_cases q : ir r50
                          · exact q
                          · rw [if_neg q] at hf; cases hf
                        rw [if_pos h52] at hf
                        by_cases h53 : r49 = r50
                        · rw [if_pos h53] at hf
                          refine RtL.path ok_law 1 [1] rfl ⟨⟨⟨h51, h52⟩, h53⟩, trivial⟩ ?_
                          refine RtL.path ok_law 2 [] rfl trivial ?_
                          exact RtL.weak ((ih _ _ _ _) hf) ⟨rfl, rfl, rfl, rfl, trivial⟩
                        · rw [if_neg h53] at hf
                          refine RtL.path ok_law 1 [0] rfl ⟨⟨⟨h51, h52⟩, h53⟩, trivial⟩ ?_
                          cases hf
                          refine RtL.path ok_law 1 [] rfl trivial ?_
                          exact RtL.retZ ok_law (show (0 : Int) = 0 ∨ (0 : Int) = 1 by decide) rfl rfl
                      · rw [if_neg h89_8] at hf
                        by_cases h89_9 : (am_and (xs (i3).toNat) 15) = 9
                        · rw [if_pos h89_9] at hf
                          refine RtL.path ok_law 6 [9] rfl ⟨h4, ⟨(am_andIn _ _), (show (am_and (xs (i3).toNat) 15) = 0 + ((9 : Nat) : Int) by omega), (show (am_and (xs (i3).toNat) 15) ≤ 13 by omega), by decide⟩, trivial⟩ ?_
                          have h54 : 0 ≤ (i3 + 1) ∧ (i3 + 1) < (L : Int) ∧ (L : Int) < 2147483648 := by
                            by_cases q : 0 ≤ (i3 + 1) ∧ (i3 + 1) < (L : Int) ∧ (L : Int) < 2147483648
                            · exact q
                            · rw [if_neg q] at hf; cases hf
                          rw [if_pos h54] at hf
                          have h55 : 0 ≤ (i3 + 2) ∧ (i3 + 2) < (L : Int) ∧ (L : Int) < 2147483648 := by
                            by_cases q : 0 ≤ (i3 + 2) ∧ (i3 + 2) < (L : Int) ∧ (L : Int) < 2147483648
                            · exact q
                            · rw [if_neg q] at hf; cases hf
                          rw [if_pos h55] at hf
                          have h56 : 0 ≤ (i3 + 3) ∧ (i3 + 3) < (L : Int) ∧ (L : Int) < 2147483648 := by
                            by_cases q : 0 ≤ (i3 + 3) ∧ (i3 + 3) < (L : Int) ∧ (L : Int) < 2147483648
                            · exact q
                            · rw [if_neg q] at hf; cases hf
                          rw [if_pos h56] at hf
                          have h57 : 0 ≤ (i3 + 4) ∧ (i3 + 4) < (L : Int) ∧ (L : Int) < 2147483648 := by
                            by_cases q : 0 ≤ (i3 + 4) ∧ (i3 + 4) < (L : Int) ∧ (L : Int) < 2147483648
                            · exact q
                            · rw [if_neg q] at hf; cases hf
                          rw [if_pos h57] at hf
                          have h58 : 0 ≤ (i3 + 5) ∧ (i3 + 5) < (L : Int) ∧ (L : Int) < 2147483648 := by
                            by_cases q : 0 ≤ (i3 + 5) ∧ (i3 + 5) < (L : Int) ∧ (L : Int) < 2147483648
                            · exact q
                            · rw [if_neg q] at hf; cases hf
                          rw [if_pos h58] at hf
                          obtain ⟨r59, g59, e59, hf⟩ := bd_inv hf
                          refine RtL.path ok_law 40 [] rfl ⟨h54, h55, h56, h57, h58, trivial⟩ ?_
                          refine RtL.callV ok_law rfl ml_W_56 [vI _, vL _, vL _] cf_L_apart rfl rfl (c_L_apart_1 (d + 8) _ _ _ _ _ _ e59) (Nat.le_of_ble_eq_true rfl) ?_
                          obtain ⟨r60, g60, e60, hf⟩ := bd_inv hf
                          refine RtL.path ok_law 40 [] rfl ⟨h54, h55, h56, h57, h58, trivial⟩ ?_
                          refine RtL.callV ok_law rfl ml_W_60 [vI _, vL _, vL _] cf_M_apart rfl rfl (c_M_apart_50 (d + 9) _ _ _ _ _ _ e60) (Nat.le_of_ble_eq_true rfl) ?_
                          have h61 : ir r59 := by
                            by_cases q : ir r59
                            · exact q
                            · rw [if_neg q] at hf; cases hf
                          rw [if_pos h61] at hf
                          have h62 : ir r60 := by
                            by_cases q : ir r60
                            · exact q
                            · rw [if_neg q] at hf; cases hf
                          rw [if_pos h62] at hf
                          by_cases h63 : r59 = r60
                          · rw [if_pos h63] at hf
                            refine RtL.path ok_law 1 [1] rfl ⟨⟨⟨h61, h62⟩, h63⟩, trivial⟩ ?_
                            refine RtL.path ok_law 2 [] rfl trivial ?_
                            exact RtL.weak ((ih _ _ _ _) hf) ⟨rfl, rfl, rfl, rfl, trivial⟩
                          · rw [if_neg h63] at hf
                            refine RtL.path ok_law 1 [0] rfl ⟨⟨⟨h61, h62⟩, h63⟩, trivial⟩ ?_
                            cases hf
                            refine RtL.path ok_law 1 [] rfl trivial ?_
                            exact RtL.retZ ok_law (show (0 : Int) = 0 ∨ (0 : Int) = 1 by decide) rfl rfl
                        · rw [if_neg h89_9] at hf
                          by_cases h89_10 : (am_and (xs (i3).toNat) 15) = 10
                          · rw [if_pos h89_10] at hf
                            refine RtL.path ok_law 6 [10] rfl ⟨h4, ⟨(am_andIn _ _), (show (am_and (xs (i3).toNat) 15) = 0 + ((10 : Nat) : Int) by omega), (show (am_and (xs (i3).toNat) 15) ≤ 13 by omega), by decide⟩, trivial⟩ ?_
                            have h64 : 0 ≤ (i3 + 1) ∧ (i3 + 1) < (L : Int) ∧ (L : Int) < 2147483648 := by
                              by_cases q : 0 ≤ (i3 + 1) ∧ (i3 + 1) < (L : Int) ∧ (L : Int) < 2147483648
                              · exact q
                              · rw [if_neg q] at hf; cases hf
                            rw [if_pos h64] at hf
                            obtain ⟨r65, g65, e65, hf⟩ := bd_inv hf
                            refine RtL.path ok_law 6 [] rfl ⟨h64, trivial⟩ ?_
                            refine RtL.callV ok_law rfl ml_W_61 [vI _] cf_L_steps rfl rfl (c_L_steps_1 (d + 9) _ _ _ _ e65) (Nat.le_of_ble_eq_true rfl) ?_
                            obtain ⟨r66, g66, e66, hf⟩ := bd_inv hf
                            refine RtL.path ok_law 6 [] rfl ⟨h64, trivial⟩ ?_
                            refine RtL.callV ok_law rfl ml_W_64 [vI _] cf_M_steps rfl rfl (c_M_steps_50 (d + 9) _ _ _ _ e66) (Nat.le_of_ble_eq_true rfl) ?_
                            have h67 : ir r65 := by
                              by_cases q : ir r65
                              · exact q
                              · rw [if_neg q] at hf; cases hf
                            rw [if_pos h67] at hf
                            have h68 : ir r66 := by
                              by_cases q : ir r66
                              · exact q
                              · rw [if_neg q] at hf; cases hf
                            rw [if_pos h68] at hf
                            by_cases h69 : r65 = r66
                            · rw [if_pos h69] at hf
                              refine RtL.path ok_law 1 [1] rfl ⟨⟨⟨h67, h68⟩, h69⟩, trivial⟩ ?_
                              refine RtL.path ok_law 2 [] rfl trivial ?_
                              exact RtL.weak ((ih _ _ _ _) hf) ⟨rfl, rfl, rfl, rfl, trivial⟩
                            · rw [if_neg h69] at hf
                              refine RtL.path ok_law 1 [0] rfl ⟨⟨⟨h67, h68⟩, h69⟩, trivial⟩ ?_
                              cases hf
                              refine RtL.path ok_law 1 [] rfl trivial ?_
                              exact RtL.retZ ok_law (show (0 : Int) = 0 ∨ (0 : Int) = 1 by decide) rfl rfl
                          · rw [if_neg h89_10] at hf
                            by_cases h89_11 : (am_and (xs (i3).toNat) 15) = 11
                            · rw [if_pos h89_11] at hf
                              refine RtL.path ok_law 6 [11] rfl ⟨h4, ⟨(am_andIn _ _), (show (am_and (xs (i3).toNat) 15) = 0 + ((11 : Nat) : Int) by omega), (show (am_and (xs (i3).toNat) 15) ≤ 13 by omega), by decide⟩, trivial⟩ ?_
                              have h70 : 0 ≤ (i3 + 1) ∧ (i3 + 1) < (L : Int) ∧ (L : Int) < 2147483648 := by
                                by_cases q : 0 ≤ (i3 + 1) ∧ (i3 + 1) < (L : Int) ∧ (L : Int) < 2147483648
                                · exact q
                                · rw [if_neg q] at hf; cases hf
                              rw [if_pos h70] at hf
                              obtain ⟨r71, g71, e71, hf⟩ := bd_inv hf
                              refine RtL.path ok_law 6 [] rfl ⟨h70, trivial⟩ ?_
                              refine RtL.callV ok_law rfl ml_W_65 [vI _] cf_L_depth rfl rfl (c_L_depth_1 (d + 9) _ _ _ _ e71) (Nat.le_of_ble_eq_true rfl) ?_
                              obtain ⟨r72, g72, e72, hf⟩ := bd_inv hf
                              refine RtL.path ok_law 6 [] rfl ⟨h70, trivial⟩ ?_
                              refine RtL.callV ok_law rfl ml_W_68 [vI _] cf_M_depth rfl rfl (c_M_depth_50 (d + 9) _ _ _ _ e72) (Nat.le_of_ble_eq_true rfl) ?_
                              have h73 : ir r71 := by
                                by_cases q : ir r71
                                · exact q
                                · rw [if_neg q] at hf; cases hf
                              rw [if_pos h73] at hf
                              have h74 : ir r72 := by
                                by_cases q : ir r72
                                · exact q
                                · rw [if_neg q] at hf; cases hf
                              rw [if_pos h74] at hf
                              by_cases h75 : r71 = r72
                              · rw [if_pos h75] at hf
                                refine RtL.path ok_law 1 [1] rfl ⟨⟨⟨h73, h74⟩, h75⟩, trivial⟩ ?_
                                refine RtL.path ok_law 2 [] rfl trivial ?_
                                exact RtL.weak ((ih _ _ _ _) hf) ⟨rfl, rfl, rfl, rfl, trivial⟩
                              · rw [if_neg h75] at hf
                                refine RtL.path ok_law 1 [0] rfl ⟨⟨⟨h73, h74⟩, h75⟩, trivial⟩ ?_
                                cases hf
                                refine RtL.path ok_law 1 [] rfl trivial ?_
                                exact RtL.retZ ok_law (show (0 : Int) = 0 ∨ (0 : Int) = 1 by decide) rfl rfl
                            · rw [if_neg h89_11] at hf
                              by_cases h89_12 : (am_and (xs (i3).toNat) 15) = 12
                              · rw [if_pos h89_12] at hf
                                refine RtL.path ok_law 6 [12] rfl ⟨h4, ⟨(am_andIn _ _), (show (am_and (xs (i3).toNat) 15) = 0 + ((12 : Nat) : Int) by omega), (show (am_and (xs (i3).toNat) 15) ≤ 13 by omega), by decide⟩, trivial⟩ ?_
                                have h76 : 0 ≤ (i3 + 1) ∧ (i3 + 1) < (L : Int) ∧ (L : Int) < 2147483648 := by
                                  by_cases q : 0 ≤ (i3 + 1) ∧ (i3 + 1) < (L : Int) ∧ (L : Int) < 2147483648
                                  · exact q
                                  · rw [if_neg q] at hf; cases hf
                                rw [if_pos h76] at hf
                                have h77 : 0 ≤ (i3 + 2) ∧ (i3 + 2) < (L : Int) ∧ (L : Int) < 2147483648 := by
                                  by_cases q : 0 ≤ (i3 + 2) ∧ (i3 + 2) < (L : Int) ∧ (L : Int) < 2147483648
                                  · exact q
                                  · rw [if_neg q] at hf; cases hf
                                rw [if_pos h77] at hf
                                obtain ⟨r78, g78, e78, hf⟩ := bd_inv hf
                                refine RtL.path ok_law 11 [] rfl ⟨h76, h77, trivial⟩ ?_
                                refine RtL.callV ok_law rfl ml_W_69 [vI _, vI _] cf_L_uses rfl rfl (c_L_uses_1 (d + 9) _ _ _ _ _ e78) (Nat.le_of_ble_eq_true rfl) ?_
                                obtain ⟨r79, g79, e79, hf⟩ := bd_inv hf
                                refine RtL.path ok_law 11 [] rfl ⟨h76, h77, trivial⟩ ?_
                                refine RtL.callV ok_law rfl ml_W_73 [vI _, vI _] cf_M_uses rfl rfl (c_M_uses_50 (d + 9) _ _ _ _ _ e79) (Nat.le_of_ble_eq_true rfl) ?_
                                have h80 : ir r78 := by
                                  by_cases q : ir r78
                                  · exact q
                                  · rw [if_neg q] at hf; cases hf
                                rw [if_pos h80] at hf
                                have h81 : ir r79 := by
                                  by_cases q : ir r79
                                  · exact q
                                  · rw [if_neg q] at hf; cases hf
                                rw [if_pos h81] at hf
                                by_cases h82 : r78 = r79
                                · rw [if_pos h82] at hf
                                  refine RtL.path ok_law 1 [1] rfl ⟨⟨⟨h80, h81⟩, h82⟩, trivial⟩ ?_
                                  refine RtL.path ok_law 2 [] rfl trivial ?_
                                  exact RtL.weak ((ih _ _ _ _) hf) ⟨rfl, rfl, rfl, rfl, trivial⟩
                                · rw [if_neg h82] at hf
                                  refine RtL.path ok_law 1 [0] rfl ⟨⟨⟨h80, h81⟩, h82⟩, trivial⟩ ?_
                                  cases hf
                                  refine RtL.path ok_law 1 [] rfl trivial ?_
                                  exact RtL.retZ ok_law (show (0 : Int) = 0 ∨ (0 : Int) = 1 by decide) rfl rfl
                              · rw [if_neg h89_12] at hf
                                by_cases h89_13 : (am_and (xs (i3).toNat) 15) = 13
                                · rw [if_pos h89_13] at hf
                                  refine RtL.path ok_law 6 [13] rfl ⟨h4, ⟨(am_andIn _ _), (show (am_and (xs (i3).toNat) 15) = 0 + ((13 : Nat) : Int) by omega), (show (am_and (xs (i3).toNat) 15) ≤ 13 by omega), by decide⟩, trivial⟩ ?_
                                  have h83 : 0 ≤ (i3 + 1) ∧ (i3 + 1) < (L : Int) ∧ (L : Int) < 2147483648 := by
                                    by_cases q : 0 ≤ (i3 + 1) ∧ (i3 + 1) < (L : Int) ∧ (L : Int) < 2147483648
                                    · exact q
                                    · rw [if_neg q] at hf; cases hf
                                  rw [if_pos h83] at hf
                                  obtain ⟨r84, g84, e84, hf⟩ := bd_inv hf
                                  refine RtL.path ok_law 6 [] rfl ⟨h83, trivial⟩ ?_
                                  refine RtL.callV ok_law rfl ml_W_74 [vI _] cf_L_proved rfl rfl (c_L_proved_1 (d + 9) _ _ _ _ e84) (Nat.le_of_ble_eq_true rfl) ?_
                                  obtain ⟨r85, g85, e85, hf⟩ := bd_inv hf
                                  refine RtL.path ok_law 6 [] rfl ⟨h83, trivial⟩ ?_
                                  refine RtL.callV ok_law rfl ml_W_78 [vI _] cf_M_proved rfl rfl (c_M_proved_50 (d + 9) _ _ _ _ e85) (Nat.le_of_ble_eq_true rfl) ?_
                                  have h86 : ir r84 := by
                                    by_cases q : ir r84
                                    · exact q
                                    · rw [if_neg q] at hf; cases hf
                                  rw [if_pos h86] at hf
                                  have h87 : ir r85 := by
                                    by_cases q : ir r85
                                    · exact q
                                    · rw [if_neg q] at hf; cases hf
                                  rw [if_pos h87] at hf
                                  by_cases h88 : r84 = r85
                                  · rw [if_pos h88] at hf
                                    refine RtL.path ok_law 1 [1] rfl ⟨⟨⟨h86, h87⟩, h88⟩, trivial⟩ ?_
                                    refine RtL.path ok_law 2 [] rfl trivial ?_
                                    exact RtL.weak ((ih _ _ _ _) hf) ⟨rfl, rfl, rfl, rfl, trivial⟩
                                  · rw [if_neg h88] at hf
                                    refine RtL.path ok_law 1 [0] rfl ⟨⟨⟨h86, h87⟩, h88⟩, trivial⟩ ?_
                                    cases hf
                                    refine RtL.path ok_law 1 [] rfl trivial ?_
                                    exact RtL.retZ ok_law (show (0 : Int) = 0 ∨ (0 : Int) = 1 by decide) rfl rfl
                                · rw [if_neg h89_13] at hf
                                  refine RtL.path ok_law 6 [14] rfl ⟨h4, ⟨(am_andIn _ _), (show (am_and (xs (i3).toNat) 15) < 0 ∨ 13 < (am_and (xs (i3).toNat) 15) by omega), by decide⟩, trivial⟩ ?_
                                  refine RtL.path ok_law 2 [] rfl trivial ?_
                                  exact RtL.weak ((ih _ _ _ _) hf) ⟨rfl, rfl, rfl, rfl, trivial⟩
