/-! ===== the law's loop, once each call is known to keep a relation RR and to answer alike on both sides ===== -/
def PI (RR : G2 → Prop) (f f' : G2 → Option (Int × G2)) : Prop := ∀ g, RR g → ∃ r g1 g2, ir r ∧ f g = some (r, g1) ∧ f' g1 = some (r, g2) ∧ RR g2
def PJ (RR : G2 → Prop) (f f' : G2 → Option (Int64 × G2)) : Prop := ∀ g, RR g → ∃ r g1 g2, f g = some (r, g1) ∧ f' g1 = some (r, g2) ∧ RR g2
set_option maxHeartbeats 4000000 in
theorem law_loop (RR : G2 → Prop) (h_feed : ∀ (c : Int64) (n : Int), ir n → PI RR (f_L_feed_1 c n) (f_M_feed_50 c n)) (h_clear : PI RR f_L_clear_1 f_M_clear_50) (h_read : PI RR f_L_read_1 f_M_read_50) (h_place : PI RR f_L_place_1 f_M_place_50) (h_count : ∀ x, ir x → PI RR (f_L_count_1 x) (f_M_count_50 x)) (h_label : ∀ x, ir x → PJ RR (f_L_label_1 x) (f_M_label_50 x)) (h_symbol : ∀ x y, ir x → ir y → PJ RR (f_L_symbol_1 x y) (f_M_symbol_50 x y)) (h_hypothesis : ∀ x y, ir x → ir y → PJ RR (f_L_hypothesis_1 x y) (f_M_hypothesis_50 x y)) (h_pairs : ∀ x, ir x → PI RR (f_L_pairs_1 x) (f_M_pairs_50 x)) (h_apart : ∀ (x : Int) (c e : Int64), ir x → PI RR (f_L_apart_1 x c e) (f_M_apart_50 x c e)) (h_steps : ∀ x, ir x → PI RR (f_L_steps_1 x) (f_M_steps_50 x)) (h_depth : ∀ x, ir x → PI RR (f_L_depth_1 x) (f_M_depth_50 x)) (h_uses : ∀ x y, ir x → ir y → PI RR (f_L_uses_1 x y) (f_M_uses_50 x y)) (h_proved : ∀ x, ir x → PI RR (f_L_proved_1 x) (f_M_proved_50 x)) (L : Nat) (xs : Nat → Int) (hL : L ≤ 3072) (hx : ∀ j, ir (xs j)) : ∀ (n i : Nat) (g : G2), i ≤ 3078 → L < i + 6 * n → RR g → ∃ g', l_law L xs (n + 1) 0 (i : Int) g = some (1, g') := by
  intro n
  induction n with
  | zero =>
    intro i g hi hn hg
    show ∃ g', b_law_0 L xs (l_law L xs 0) i g = some (1, g')
    unfold b_law_0
    rw [if_pos (show ir (i : Int) by omega), if_pos (show ir ((L : Int) - 6) by omega)]
    exact ⟨g, if_pos (by omega)⟩
  | succ n ih =>
    intro i g hi hn hg
    show ∃ g', b_law_0 L xs (l_law L xs (n + 1)) i g = some (1, g')
    unfold b_law_0
    rw [if_pos (show ir (i : Int) by omega), if_pos (show ir ((L : Int) - 6) by omega)]
    by_cases hend : (L : Int) - 6 < i
    · exact ⟨g, if_pos hend⟩
    · rw [if_neg hend, if_pos (show 0 ≤ (i : Int) ∧ (i : Int) < (L : Int) ∧ (L : Int) < 2147483648 by omega)]
      have nx : ∀ g2, RR g2 → ∃ g', l_law L xs (n + 1) 0 ((i : Int) + 6) g2 = some (1, g') := fun g2 h2 => ih (i + 6) g2 (by omega) (by omega) h2
      by_cases k0 : am_and (xs (i : Int).toNat) 15 = 0
      · rw [if_pos k0]
        rw [if_pos (show 0 ≤ (i : Int) + 1 ∧ (i : Int) + 1 < (L : Int) ∧ (L : Int) < 2147483648 by omega)]
        rw [if_pos (show 0 ≤ (i : Int) + 2 ∧ (i : Int) + 2 < (L : Int) ∧ (L : Int) < 2147483648 by omega)]
        rw [if_pos (show 0 ≤ (i : Int) + 3 ∧ (i : Int) + 3 < (L : Int) ∧ (L : Int) < 2147483648 by omega)]
        obtain ⟨r, g1, g2, p1, p2, p3, p4⟩ := h_feed _ _ (hx _) g hg
        rw [bd_some p2, bd_some p3, if_pos p1, if_pos p1, if_pos rfl]
        exact nx g2 p4
      rw [if_neg k0]
      by_cases k1 : am_and (xs (i : Int).toNat) 15 = 1
      · rw [if_pos k1]
        obtain ⟨r, g1, g2, p1, p2, p3, p4⟩ := h_clear g hg
        rw [bd_some p2, bd_some p3, if_pos p1, if_pos p1, if_pos rfl]
        exact nx g2 p4
      rw [if_neg k1]
      by_cases k2 : am_and (xs (i : Int).toNat) 15 = 2
      · rw [if_pos k2]
        obtain ⟨r, g1, g2, p1, p2, p3, p4⟩ := h_read g hg
        rw [bd_some p2, bd_some p3, if_pos p1, if_pos p1, if_pos rfl]
        exact nx g2 p4
      rw [if_neg k2]
      by_cases k3 : am_and (xs (i : Int).toNat) 15 = 3
      · rw [if_pos k3]
        obtain ⟨r, g1, g2, p1, p2, p3, p4⟩ := h_place g hg
        rw [bd_some p2, bd_some p3, if_pos p1, if_pos p1, if_pos rfl]
        exact nx g2 p4
      rw [if_neg k3]
      by_cases k4 : am_and (xs (i : Int).toNat) 15 = 4
      · rw [if_pos k4]
        rw [if_pos (show 0 ≤ (i : Int) + 1 ∧ (i : Int) + 1 < (L : Int) ∧ (L : Int) < 2147483648 by omega)]
        obtain ⟨r, g1, g2, p1, p2, p3, p4⟩ := h_count _ (hx _) g hg
        rw [bd_some p2, bd_some p3, if_pos p1, if_pos p1, if_pos rfl]
        exact nx g2 p4
      rw [if_neg k4]
      by_cases k5 : am_and (xs (i : Int).toNat) 15 = 5
      · rw [if_pos k5]
        rw [if_pos (show 0 ≤ (i : Int) + 1 ∧ (i : Int) + 1 < (L : Int) ∧ (L : Int) < 2147483648 by omega)]
        obtain ⟨r, g1, g2, p2, p3, p4⟩ := h_label _ (hx _) g hg
        rw [bd_some p2, bd_some p3, if_pos rfl]
        exact nx g2 p4
      rw [if_neg k5]
      by_cases k6 : am_and (xs (i : Int).toNat) 15 = 6
      · rw [if_pos k6]
        rw [if_pos (show 0 ≤ (i : Int) + 1 ∧ (i : Int) + 1 < (L : Int) ∧ (L : Int) < 2147483648 by omega)]
        rw [if_pos (show 0 ≤ (i : Int) + 2 ∧ (i : Int) + 2 < (L : Int) ∧ (L : Int) < 2147483648 by omega)]
        obtain ⟨r, g1, g2, p2, p3, p4⟩ := h_symbol _ _ (hx _) (hx _) g hg
        rw [bd_some p2, bd_some p3, if_pos rfl]
        exact nx g2 p4
      rw [if_neg k6]
      by_cases k7 : am_and (xs (i : Int).toNat) 15 = 7
      · rw [if_pos k7]
        rw [if_pos (show 0 ≤ (i : Int) + 1 ∧ (i : Int) + 1 < (L : Int) ∧ (L : Int) < 2147483648 by omega)]
        rw [if_pos (show 0 ≤ (i : Int) + 2 ∧ (i : Int) + 2 < (L : Int) ∧ (L : Int) < 2147483648 by omega)]
        obtain ⟨r, g1, g2, p2, p3, p4⟩ := h_hypothesis _ _ (hx _) (hx _) g hg
        rw [bd_some p2, bd_some p3, if_pos rfl]
        exact nx g2 p4
      rw [if_neg k7]
      by_cases k8 : am_and (xs (i : Int).toNat) 15 = 8
      · rw [if_pos k8]
        rw [if_pos (show 0 ≤ (i : Int) + 1 ∧ (i : Int) + 1 < (L : Int) ∧ (L : Int) < 2147483648 by omega)]
        obtain ⟨r, g1, g2, p1, p2, p3, p4⟩ := h_pairs _ (hx _) g hg
        rw [bd_some p2, bd_some p3, if_pos p1, if_pos p1, if_pos rfl]
        exact nx g2 p4
      rw [if_neg k8]
      by_cases k9 : am_and (xs (i : Int).toNat) 15 = 9
      · rw [if_pos k9]
        rw [if_pos (show 0 ≤ (i : Int) + 1 ∧ (i : Int) + 1 < (L : Int) ∧ (L : Int) < 2147483648 by omega)]
        rw [if_pos (show 0 ≤ (i : Int) + 2 ∧ (i : Int) + 2 < (L : Int) ∧ (L : Int) < 2147483648 by omega)]
        rw [if_pos (show 0 ≤ (i : Int) + 3 ∧ (i : Int) + 3 < (L : Int) ∧ (L : Int) < 2147483648 by omega)]
        rw [if_pos (show 0 ≤ (i : Int) + 4 ∧ (i : Int) + 4 < (L : Int) ∧ (L : Int) < 2147483648 by omega)]
        rw [if_pos (show 0 ≤ (i : Int) + 5 ∧ (i : Int) + 5 < (L : Int) ∧ (L : Int) < 2147483648 by omega)]
        obtain ⟨r, g1, g2, p1, p2, p3, p4⟩ := h_apart _ _ _ (hx _) g hg
        rw [bd_some p2, bd_some p3, if_pos p1, if_pos p1, if_pos rfl]
        exact nx g2 p4
      rw [if_neg k9]
      by_cases k10 : am_and (xs (i : Int).toNat) 15 = 10
      · rw [if_pos k10]
        rw [if_pos (show 0 ≤ (i : Int) + 1 ∧ (i : Int) + 1 < (L : Int) ∧ (L : Int) < 2147483648 by omega)]
        obtain ⟨r, g1, g2, p1, p2, p3, p4⟩ := h_steps _ (hx _) g hg
        rw [bd_some p2, bd_some p3, if_pos p1, if_pos p1, if_pos rfl]
        exact nx g2 p4
      rw [if_neg k10]
      by_cases k11 : am_and (xs (i : Int).toNat) 15 = 11
      · rw [if_pos k11]
        rw [if_pos (show 0 ≤ (i : Int) + 1 ∧ (i : Int) + 1 < (L : Int) ∧ (L : Int) < 2147483648 by omega)]
        obtain ⟨r, g1, g2, p1, p2, p3, p4⟩ := h_depth _ (hx _) g hg
        rw [bd_some p2, bd_some p3, if_pos p1, if_pos p1, if_pos rfl]
        exact nx g2 p4
      rw [if_neg k11]
      by_cases k12 : am_and (xs (i : Int).toNat) 15 = 12
      · rw [if_pos k12]
        rw [if_pos (show 0 ≤ (i : Int) + 1 ∧ (i : Int) + 1 < (L : Int) ∧ (L : Int) < 2147483648 by omega)]
        rw [if_pos (show 0 ≤ (i : Int) + 2 ∧ (i : Int) + 2 < (L : Int) ∧ (L : Int) < 2147483648 by omega)]
        obtain ⟨r, g1, g2, p1, p2, p3, p4⟩ := h_uses _ _ (hx _) (hx _) g hg
        rw [bd_some p2, bd_some p3, if_pos p1, if_pos p1, if_pos rfl]
        exact nx g2 p4
      rw [if_neg k12]
      by_cases k13 : am_and (xs (i : Int).toNat) 15 = 13
      · rw [if_pos k13]
        rw [if_pos (show 0 ≤ (i : Int) + 1 ∧ (i : Int) + 1 < (L : Int) ∧ (L : Int) < 2147483648 by omega)]
        obtain ⟨r, g1, g2, p1, p2, p3, p4⟩ := h_proved _ (hx _) g hg
        rw [bd_some p2, bd_some p3, if_pos p1, if_pos p1, if_pos rfl]
        exact nx g2 p4
      rw [if_neg k13]
      exact nx g hg
theorem law_open (RR : G2 → Prop) (h0 : RR g_0) (h_feed : ∀ (c : Int64) (n : Int), ir n → PI RR (f_L_feed_1 c n) (f_M_feed_50 c n)) (h_clear : PI RR f_L_clear_1 f_M_clear_50) (h_read : PI RR f_L_read_1 f_M_read_50) (h_place : PI RR f_L_place_1 f_M_place_50) (h_count : ∀ x, ir x → PI RR (f_L_count_1 x) (f_M_count_50 x)) (h_label : ∀ x, ir x → PJ RR (f_L_label_1 x) (f_M_label_50 x)) (h_symbol : ∀ x y, ir x → ir y → PJ RR (f_L_symbol_1 x y) (f_M_symbol_50 x y)) (h_hypothesis : ∀ x y, ir x → ir y → PJ RR (f_L_hypothesis_1 x y) (f_M_hypothesis_50 x y)) (h_pairs : ∀ x, ir x → PI RR (f_L_pairs_1 x) (f_M_pairs_50 x)) (h_apart : ∀ (x : Int) (c e : Int64), ir x → PI RR (f_L_apart_1 x c e) (f_M_apart_50 x c e)) (h_steps : ∀ x, ir x → PI RR (f_L_steps_1 x) (f_M_steps_50 x)) (h_depth : ∀ x, ir x → PI RR (f_L_depth_1 x) (f_M_depth_50 x)) (h_uses : ∀ x y, ir x → ir y → PI RR (f_L_uses_1 x y) (f_M_uses_50 x y)) (h_proved : ∀ x, ir x → PI RR (f_L_proved_1 x) (f_M_proved_50 x)) : PureLaw := by
  intro L xs hL hx
  exact law_loop RR h_feed h_clear h_read h_place h_count h_label h_symbol h_hypothesis h_pairs h_apart h_steps h_depth h_uses h_proved L xs hL hx 599 0 g_0 (by omega) (by omega) h0
