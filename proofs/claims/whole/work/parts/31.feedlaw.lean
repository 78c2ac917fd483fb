/-! feed and clear keep a relation that speaks of the text through RT and of the rest through SB -/
theorem p_feed (RR : G2 → Prop) (h1 : ∀ g, RR g → ∃ len, RT g len) (h2 : ∀ g g' len', RR g → SB g g' → RT g' len' → RR g') (c : Int64) (n : Int) (hn : ir n) : PI RR (f_L_feed_1 c n) (f_M_feed_50 c n) := by
  intro g hg
  obtain ⟨len, hl, t1, t2, t3⟩ := h1 g hg
  have bad : f_Text_append_2 c n g = some (-1, g) → f_M_feed_50 c n g = some (-1, g) → ∃ r g1 g2, ir r ∧ f_L_feed_1 c n g = some (r, g1) ∧ f_M_feed_50 c n g1 = some (r, g2) ∧ RR g2 := fun a b => ⟨-1, g, g, by decide, by unfold f_L_feed_1; rw [bd_some a], b, hg⟩
  by_cases n1 : n < 1
  · exact bad (by unfold f_Text_append_2; rw [if_pos hn, if_pos n1]) (by unfold f_M_feed_50; rw [if_pos hn, if_pos n1])
  by_cases n8 : 8 < n
  · exact bad (by unfold f_Text_append_2; rw [if_pos hn, if_neg n1, if_pos n8]) (by unfold f_M_feed_50; rw [if_pos hn, if_neg n1, if_pos n8])
  obtain ⟨k, rfl⟩ : ∃ k : Nat, n = (k : Int) := ⟨n.toNat, by omega⟩
  have hir : ir ((len : Int) + k) := by omega
  by_cases n16 : 1600 < (len : Int) + k
  · exact bad (by unfold f_Text_append_2; rw [if_pos hn, if_neg n1, if_neg n8, t1, if_pos hir, if_pos n16]) (by unfold f_M_feed_50; rw [if_pos hn, if_neg n1, if_neg n8, t2, if_pos hir, if_pos n16])
  have o1 : f_Text_append_2 c k g = l_Text_append_2 20000 0 c k ((0 : Nat) : Int) g := by unfold f_Text_append_2; rw [if_pos hn, if_neg n1, if_neg n8, t1, if_pos hir, if_neg n16]; rfl
  have o2 : ∀ g', rI g' 49 1 = len → f_M_feed_50 c k g' = l_M_feed_50 20000 0 c k ((0 : Nat) : Int) g' := by intro g' t'; unfold f_M_feed_50; rw [if_pos hn, if_neg n1, if_neg n8, t', if_pos hir, if_neg n16]; rfl
  rw [e_app0 g c k (by omega) k 20000 0 (by omega) (by omega)] at o1
  by_cases hc : chkN c k 0 = true
  · rw [if_pos hc] at o1
    have hb := chkN_ok c k 0 hc
    obtain ⟨g1, a1, a2, a3, a4, a5, a6⟩ := e_app1 c k len (by omega) (by omega) (fun j hj => hb j (by omega) (by omega)) k (20000 - k - 1) 0 g t1 (by omega) (by omega)
    have t49 : rI g1 49 1 = len := by
      show g1.1 49 1 = _
      rw [a2]
      exact t2
    have o3 := o2 g1 t49
    rw [e_feed0 g1 c k (by omega) k 20000 0 (by omega) (by omega), if_pos hc] at o3
    obtain ⟨g2, b1, b2, b2b, b3, b4, b5, b6⟩ := e_feed1 c k len (by omega) (by omega) k (20000 - k - 1) g1 (by omega) (by rw [t49, Nat.sub_self, Nat.add_zero]) (by omega)
    refine ⟨((len + k : Nat) : Int), g1, g2, by omega, ?_, ?_, h2 g g2 (len + k) hg ⟨fun r q q1 q2 => ?_, b3.trans a3, fun r r1 r2 => (b5 r r2).trans (a5 r r1), b4.trans a4⟩ ⟨by omega, ?_, b2b, fun i hi => ?_⟩⟩
    · unfold f_L_feed_1
      rw [bd_some (o1.trans a1)]
    · exact o3.trans b1
    · rw [b2 r q q2, a2]
      unfold am_upd
      by_cases e : r = 1
      · subst e
        rw [if_pos rfl, if_neg (fun e => q1 ⟨rfl, e⟩)]
      · rw [if_neg e]
    · show g2.1 1 1 = _
      rw [b2 1 1 (by omega), a2]
      rfl
    · rw [b5 2 (by omega), a6 i, b6 i, a5 50 (by omega)]
      by_cases hx : i < len
      · rw [if_neg (by omega), if_neg (by omega)]
        exact t3 i hx
      · rw [if_pos (by omega), if_pos (by omega)]
        have := hb (k - 1 - (i - len)) (by omega) (by omega)
        exact ⟨rfl, by omega, by omega⟩
  · rw [if_neg hc] at o1
    refine bad o1 ?_
    rw [o2 g t2, e_feed0 g c k (by omega) k 20000 0 (by omega) (by omega), if_neg hc]
theorem p_clear (RR : G2 → Prop) (h1 : ∀ g, RR g → ∃ len, RT g len) (h2 : ∀ g g' len', RR g → SB g g' → RT g' len' → RR g') : PI RR f_L_clear_1 f_M_clear_50 := by
  intro g hg
  obtain ⟨len, hl, t1, t2, t3⟩ := h1 g hg
  refine ⟨(len : Int), gI g 1 1 0, gI (gI g 1 1 0) 49 1 0, by omega, ?_, ?_, h2 g _ 0 hg ⟨fun r q q1 q2 => ?_, rfl, fun _ _ _ => rfl, rfl⟩ ⟨by omega, rfl, rfl, fun i hi => by omega⟩⟩
  · unfold f_L_clear_1 f_Text_empty_2
    rw [t1]
    rfl
  · unfold f_M_clear_50
    have : rI (gI g 1 1 0) 49 1 = len := t2
    rw [this]
  · show am_upd (am_upd g.1 1 (am_upd (g.1 1) 1 0)) 49 (am_upd (am_upd g.1 1 (am_upd (g.1 1) 1 0) 49) 1 0) r q = _
    unfold am_upd
    by_cases e : r = 49
    · subst e
      rw [if_pos rfl, if_neg (fun e => q2 ⟨rfl, e⟩), if_neg (by omega)]
    · rw [if_neg e]
      by_cases e : r = 1
      · subst e
        rw [if_pos rfl, if_neg (fun e => q1 ⟨rfl, e⟩)]
      · rw [if_neg e]
