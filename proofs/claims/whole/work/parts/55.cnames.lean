/-! ===== the class's steps: names ===== -/
theorem tb_t {x : Int64} {k : Nat} (hk : k < 64) : ((am_ushr x (k : Int)) &&& (Int64.ofNat 1)) = Int64.ofNat 0 ↔ ¬ tb x k = true := by
  rw [tb_test x hk]; cases tb x k <;> simp
theorem CN.keep {S S' : RSt} {g g' : G2} (h : CN S g) (e : S'.1 = S.1) (q : ∀ r, r = 3 ∨ r = 4 ∨ r = 5 ∨ r = 6 → g'.1 r = g.1 r ∧ g'.2.1 r = g.2.1 r ∧ g'.2.2.1 r = g.2.2.1 r ∧ g'.2.2.2 r = g.2.2.2 r) : CN S' g' := by
  unfold CN RSt.nms RSt.cst RSt.nvs rI rJ at *
  rw [e, (q 3 (by omega)).1, (q 3 (by omega)).2.1, (q 4 (by omega)).2.2.2, (q 5 (by omega)).2.2.1, (q 6 (by omega)).2.2.1]
  exact h
theorem c_isFull {S : RSt} {g : G2} (h : CN S g) (hn : S.nms.length ≤ 60) : f_Names_isFull_4 g = some ((if 60 ≤ S.nms.length then 1 else 0), g) := by
  obtain ⟨h1, _⟩ := h
  unfold f_Names_isFull_4
  rw [if_pos (by omega)]
  by_cases q : 60 ≤ S.nms.length
  · rw [if_neg (by omega), if_pos q]
  · rw [if_pos (by omega), if_neg q]
theorem c_mean {S : RSt} {g : G2} (h : CN S g) (hx : CX S g) (hi : Iv S) (c : Int64) : f_Reader_meaningOf_26 (fnd S c) g = some (mean S (fnd S c), g) := by
  obtain ⟨h1, h2, h3, h4⟩ := h
  obtain ⟨⟨x1, x2, x3⟩, _⟩ := hx
  obtain ⟨⟨i0, _⟩, i1, _⟩ := hi
  unfold f_Reader_meaningOf_26 mean
  rcases fnd_cases S c with q | ⟨u, x, q1, q2, q3, q4⟩
  · rw [q]; rfl
  · rw [q1, if_pos (by omega), if_neg (by omega), if_pos (by omega), Int.toNat_natCast, rol_get q3]
    have e5 : rA g 5 ((u : Nat) : Int) = (x.role : Int) := (h4 u x q3).2.1
    have r2 := (i1 u x q3).1
    rw [e5, if_pos (by omega)]
    by_cases r0 : x.role = 0
    · rw [if_pos (by omega), if_neg (by omega), if_pos r0]
    · rw [if_neg (by omega), if_neg (show ¬ (u : Int) < 0 by omega), if_neg r0]
      unfold f_Reader_isActive_26
      rw [x1]
      by_cases hb : tb S.vars u = true
      · rw [if_neg (by rw [tb_t (by omega)]; simpa using hb), if_pos hb]; rfl
      · rw [if_pos (by rw [tb_t (by omega)]; exact hb), if_neg hb]; rfl
theorem c_declareConstant {S : RSt} {g : G2} (h : CRep S g) (hi : Iv S) (hs : S.stage = 1) (c : Int64) : OutC S (f_Reader_declareConstant_26 c g) (declareConstantS S c) := by
  obtain ⟨⟨hN, hS, hA, h38⟩, hX, hR, hC, hP, hL⟩ := h
  have i0 := hi.1.1
  unfold f_Reader_declareConstant_26 declareConstantS
  rw [bd_some (c_find hN i0 c)]
  by_cases h1 : fnd S c = -1
  · rw [if_pos (by omega), if_pos h1, if_neg (fun q => q h1), bd_some (c_isFull hN i0)]
    by_cases h2 : 60 ≤ S.nms.length
    · rw [if_pos h2, if_pos (by decide), if_neg (by decide), if_pos h2]
      exact ⟨g, rfl, ⟨hN, hS, hA, h38⟩, by decide, by decide⟩
    · rw [if_neg h2, if_pos (by decide), if_pos rfl, if_neg h2]
      obtain ⟨n1, n2, n3, n4⟩ := hN
      obtain ⟨r1, r2⟩ := hR
      unfold f_Names_add_4
      rw [if_pos (by omega), if_pos (by decide), if_pos rfl]
      refine ⟨_, rfl, ⟨⟨?_, ?_, n3, ?_⟩, hS, hA, h38⟩, hX, ⟨r1, fun _ _ => ⟨?_, (r2 (by omega) (by omega)).2⟩⟩, hC, hP, hL⟩
      · show rI g 3 3 + 1 = _
        rw [n1]; exact len1 _ _
      · show rI g 3 4 + 1 = _
        rw [n2]; exact nat1 _
      · intro i x hx
        have e4 : ∀ j, (am_upd (g.2.2.2 4) (rI g 3 3).toNat c) j = if j = S.nms.length then c else g.2.2.2 4 j := by intro j; unfold am_upd; rw [n1, Int.toNat_natCast]
        have e5 : ∀ j, (am_upd (g.2.2.1 5) (rI g 3 3).toNat 0) j = if j = S.nms.length then 0 else g.2.2.1 5 j := by intro j; unfold am_upd; rw [n1, Int.toNat_natCast]
        rcases ap_get hx with ⟨a1, a2⟩ | ⟨a1, a2⟩
        · obtain ⟨b1, b2, b3⟩ := n4 i x a2
          refine ⟨(e4 i).trans ?_, (e5 i).trans ?_, b3⟩
          · rw [if_neg (by omega)]; exact b1
          · rw [if_neg (by omega)]; exact b2
        · subst a2
          refine ⟨(e4 i).trans ?_, (e5 i).trans ?_, fun q => absurd (show (0 : Nat) = 2 from q) (by decide)⟩
          · rw [if_pos a1]
          · rw [if_pos a1]; rfl
      · show rI g 25 7 + 1 = _
        rw [(r2 (by omega) (by omega)).1]; exact nat1 _
  · rw [if_pos (by rcases fnd_cases S c with q | ⟨u, x, q1, q2, q3, q4⟩ <;> omega), if_neg h1, if_pos h1]
    exact ⟨g, rfl, ⟨hN, hS, hA, h38⟩, by decide, by decide⟩
