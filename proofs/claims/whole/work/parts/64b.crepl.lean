/-! ===== the class's steps: replacing ===== -/
/-- but for the row in the making nothing differs -/
abbrev SR (g g' : G2) : Prop := KK (fun r => r ≠ 39 ∧ r ≠ 40 ∧ r ≠ 41) g g'
theorem or_zero (x : Int64) : x ||| Int64.ofNat 0 = x := tb_ext (fun i hi => by rw [tb_or, tb_zero, Bool.or_false])
theorem zero_or (x : Int64) : Int64.ofNat 0 ||| x = x := tb_ext (fun i hi => by rw [tb_or, tb_zero, Bool.false_or])
theorem or_asc (x y z : Int64) : x ||| y ||| z = x ||| (y ||| z) := tb_ext (fun i hi => by rw [tb_or, tb_or, tb_or, tb_or, Bool.or_assoc])
theorem repS_app (S : RSt) (σ : Nat → Nat) (b : List Nat) : ∀ a, repS S σ (a ++ b) = ((repS S σ a).1 ++ (repS S σ b).1, (repS S σ a).2 ||| (repS S σ b).2) := by
  intro a
  induction a with
  | nil => show repS S σ b = _; show _ = ([] ++ (repS S σ b).1, Int64.ofNat 0 ||| (repS S σ b).2); rw [zero_or]; rfl
  | cons x a ih =>
    show ((subS S σ x).1 ++ (repS S σ (a ++ b)).1, (subS S σ x).2 ||| (repS S σ (a ++ b)).2) = (((subS S σ x).1 ++ (repS S σ a).1) ++ (repS S σ b).1, ((subS S σ x).2 ||| (repS S σ a).2) ||| (repS S σ b).2)
    rw [ih, List.append_assoc, or_asc]
theorem repS_one (S : RSt) (σ : Nat → Nat) (x : Nat) : repS S σ [x] = subS S σ x := by
  show ((subS S σ x).1 ++ [], (subS S σ x).2 ||| Int64.ofNat 0) = _
  rw [or_zero, List.append_nil]
theorem tail_get {α : Type} {l : List α} {i : Nat} : l.tail[i]? = l[i + 1]? := by cases l <;> simp
theorem c_bodyL {g0 : G2} (p : Nat) (hp : p < 16) (e : List Nat × Int64) (L : List Nat) (V : Int64) (h36 : g0.2.2.1 36 p = (e.1.length : Int)) (h37 : g0.2.2.2 37 p = e.2) (h35 : RowAt (g0.2.2.1 35) (24 * p) e.1) (h24 : e.1.length ≤ 24) (hroom : L.length + e.1.tail.length ≤ 24) : ∀ (k m i : Nat) (g : G2), i + k = e.1.tail.length → k < m → SR g0 g → Rsl g (L ++ e.1.tail.take i, V) → ∃ g', l_Expressions_appendBody_39_35 m 0 (p : Int) ((i : Int) + 1) g = some g' ∧ SR g0 g' ∧ Rsl g' (L ++ e.1.tail, V ||| e.2) := by
  have htl : e.1.tail.length = e.1.length - 1 := by rw [List.length_tail]
  intro k
  induction k with
  | zero =>
    intro m i g hi hm hk hr
    obtain ⟨m, rfl⟩ : ∃ m', m = m' + 1 := ⟨m - 1, by omega⟩
    obtain ⟨r1, r2, r3, r4⟩ := hr
    have e36 : rA g 36 ((p : Nat) : Int) = (e.1.length : Int) := by show g.2.2.1 36 p = _; rw [(hk 36 (by decide)).2.2.1]; exact h36
    have e37 : rB g 37 ((p : Nat) : Int) = e.2 := by show g.2.2.2 37 p = _; rw [(hk 37 (by decide)).2.2.2]; exact h37
    have e41 : rB g 41 (rI g 38 4) = V := by rw [r1]; exact r4
    rw [List.take_of_length_le (by omega)] at r2 r3
    refine ⟨gB g 41 (rI g 38 4) ((rB g 41 (rI g 38 4)) ||| (rB g 37 ((p : Nat) : Int))), ?_, hk.tr (KK.b (by decide) KK.rf), r1, r2, r3, ?_⟩
    · rw [s_Expressions_appendBody_39_35_0]
      unfold b_Expressions_appendBody_39_35_0
      rw [if_pos (by omega), if_pos (by omega), e36, if_pos (by omega), if_neg (by omega), if_pos (by omega)]
    · show am_upd (g.2.2.2 41) (rI g 38 4).toNat _ 0 = _
      rw [r1, show (0 : Int).toNat = 0 from rfl, updN_at, e37]
      show rB g 41 0 ||| _ = _
      rw [show rB g 41 0 = V from r4]
  | succ k ih =>
    intro m i g hi hm hk hr
    obtain ⟨m, rfl⟩ : ∃ m', m = m' + 1 := ⟨m - 1, by omega⟩
    obtain ⟨r1, r2, r3, r4⟩ := hr
    have e36 : rA g 36 ((p : Nat) : Int) = (e.1.length : Int) := by show g.2.2.1 36 p = _; rw [(hk 36 (by decide)).2.2.1]; exact h36
    obtain ⟨x, hx⟩ := ex_get (l := e.1.tail) (k := i) (by omega)
    have hx1 : e.1[i + 1]? = some x := by rw [← tail_get]; exact hx
    have hll : (L ++ e.1.tail.take i).length = L.length + i := by rw [List.length_append, List.length_take]; omega
    have e40 : rA g 40 (rI g 38 4) = ((L.length + i : Nat) : Int) := by rw [r1, ← hll]; exact r2
    have e35 : rA g 35 (((p : Int) * 24) + ((i : Int) + 1)) = (x : Int) := by
      show g.2.2.1 35 (((p : Int) * 24) + ((i : Int) + 1)).toNat = _
      rw [(hk 35 (by decide)).2.2.1, show (((p : Int) * 24) + ((i : Int) + 1)).toNat = 24 * p + (i + 1) by omega]
      exact h35 (i + 1) x hx1
    have ep : (((rI g 38 4) * 24) + (rA g 40 (rI g 38 4))).toNat = L.length + i := by rw [e40, r1]; omega
    have t1 : (((i : Int) + 1) + 1) = (((i + 1 : Nat) : Int) + 1) := rfl
    obtain ⟨g', a1, a2, a3⟩ := ih m (i + 1) (gA (gA g 39 (((rI g 38 4) * 24) + (rA g 40 (rI g 38 4))) (rA g 35 (((p : Int) * 24) + ((i : Int) + 1)))) 40 (rI g 38 4) ((rA g 40 (rI g 38 4)) + 1)) (by omega) (by omega) (hk.tr (KK.a (by decide) (KK.a (by decide) KK.rf))) ⟨r1, by
        show am_upd (g.2.2.1 40) (rI g 38 4).toNat _ 0 = _
        rw [r1, show (0 : Int).toNat = 0 from rfl, updN_at, take_succ' hx, ← List.append_assoc]
        rw [show rA g 40 0 = ((L ++ e.1.tail.take i).length : Int) from r2]
        exact len1 _ _, by
        show RowAt (am_upd (g.2.2.1 39) (((rI g 38 4) * 24) + (rA g 40 (rI g 38 4))).toNat _) 0 (L ++ e.1.tail.take (i + 1))
        rw [ep, take_succ' hx, ← List.append_assoc]
        exact r3.app x _ e35 _ (by rw [hll]; omega), r4⟩
    refine ⟨g', ?_, a2, a3⟩
    rw [s_Expressions_appendBody_39_35_0]
    unfold b_Expressions_appendBody_39_35_0
    rw [if_pos (by omega), if_pos (by omega), e36, if_pos (by omega), if_pos (by omega), if_pos (by omega), if_pos (by omega), if_pos (by rw [e40]; omega), t1]
    exact a1
/-- what a replacing needs of the state -/
def RpOk (S : RSt) (g : G2) (σ : Nat → Nat) (l : List Nat) : Prop := ∀ v ∈ l, rol S v = 1 → g.2.2.1 42 v = (σ v : Int) ∧ σ v < S.stk.length
theorem c_replL {S : RSt} {g0 : G2} (hN : CN S g0) (hS : CS S g0) (hP : CPf S g0) (h38 : rI g0 38 4 = 0) (hs : 10 ≤ S.stage) (h16 : S.stk.length ≤ 16) (hrow : StOk S S.stk) (n60 : S.nms.length ≤ 60) (σ : Nat → Nat) (k : Nat) (s : RSm) (hk : S.sms[k]? = some s) (hk40 : k < 40) (hok : RowOk S s.row) (hrp : RpOk S g0 σ s.row) : ∀ (q m i : Nat) (g : G2), i + q = s.row.length → q < m → SR g0 g → Rsl g (repS S σ (s.row.take i)) → (repS S σ (s.row.take i)).1.length ≤ 24 →
    ∃ g', l_Proof_replaceIn_34 m 0 (k : Int) (i : Int) g = some (b01 (decide ((repS S σ s.row).1.length ≤ 24)), g') ∧ SR g0 g' ∧ ((repS S σ s.row).1.length ≤ 24 → Rsl g' (repS S σ s.row)) := by
  obtain ⟨o1, o2, o3, o4⟩ := hok
  obtain ⟨p1, p2, p3⟩ := hP hs
  obtain ⟨w1, w2, w3, w4, w5, w6⟩ := hS.2 k s hk
  intro q
  induction q with
  | zero =>
    intro m i g hi hm hkk hr hle
    obtain ⟨m, rfl⟩ : ∃ m', m = m' + 1 := ⟨m - 1, by omega⟩
    rw [List.take_of_length_le (by omega)] at hr hle
    have e12 : rA g 12 ((k : Nat) : Int) = (s.row.length : Int) := by show g.2.2.1 12 k = _; rw [(hkk 12 (by decide)).2.2.1]; exact w3
    refine ⟨g, ?_, hkk, fun _ => hr⟩
    rw [s_Proof_replaceIn_34_0]
    unfold b_Proof_replaceIn_34_0
    rw [if_pos (by omega), if_pos (by omega), e12, if_pos (by omega), if_neg (by omega)]
    simp [hle]
  | succ q ih =>
    intro m i g hi hm hkk hr hle
    obtain ⟨m, rfl⟩ : ∃ m', m = m' + 1 := ⟨m - 1, by omega⟩
    obtain ⟨x, hx⟩ := ex_get (l := s.row) (k := i) (by omega)
    have hxm := List.mem_of_getElem? hx
    obtain ⟨x1, x2⟩ := o3 x hxm
    obtain ⟨y, hy⟩ := ex_get x1
    have hry := rol_get hy
    have e12 : rA g 12 ((k : Nat) : Int) = (s.row.length : Int) := by show g.2.2.1 12 k = _; rw [(hkk 12 (by decide)).2.2.1]; exact w3
    have e11 : g.2.2.1 11 (24 * k + i) = (x : Int) := by rw [(hkk 11 (by decide)).2.2.1]; exact w4 i x hx
    have e5 : rA g 5 ((x : Nat) : Int) = (rol S x : Int) := by
      show g.2.2.1 5 x = _
      rw [(hkk 5 (by decide)).2.2.1, hry]; exact (hN.2.2.2 x y hy).2.1
    have hsym : f_Expressions_symbolAt_11 (k : Int) (i : Int) g = some ((x : Int), g) := by rw [e_symbolAt_11 g k i hk40 (by omega), e11]
    have htk : repS S σ (s.row.take (i + 1)) = ((repS S σ (s.row.take i)).1 ++ (subS S σ x).1, (repS S σ (s.row.take i)).2 ||| (subS S σ x).2) := by rw [take_succ' hx, repS_app, repS_one]
    have hfull : (repS S σ (s.row.take (i + 1))).1.length ≤ (repS S σ s.row).1.length := by
      have : s.row = s.row.take (i + 1) ++ s.row.drop (i + 1) := (List.take_append_drop _ _).symm
      conv => rhs; rw [this]
      rw [repS_app]
      show _ ≤ ((repS S σ (s.row.take (i + 1))).1 ++ _).length
      rw [List.length_append]; omega
    obtain ⟨r1, r2, r3, r4⟩ := hr
    have e40 : rA g 40 (rI g 38 4) = ((repS S σ (s.row.take i)).1.length : Int) := by rw [r1]; exact r2
    rw [s_Proof_replaceIn_34_0]
    unfold b_Proof_replaceIn_34_0
    rw [if_pos (by omega), if_pos (by omega), e12, if_pos (by omega), if_pos (by omega), bd_some hsym, if_pos (by omega), e5, if_pos (by omega)]
    by_cases hv : rol S x = 1
    · obtain ⟨v1, v2⟩ := hrp x hxm hv
      obtain ⟨e, he⟩ := ex_get v2
      obtain ⟨f1, f2, f3⟩ := p2 _ e he
      obtain ⟨t1, t2, t3, t4⟩ := (hrow e (List.mem_of_getElem? he)).1
      have e42 : rA g 42 ((x : Nat) : Int) = (σ x : Int) := by show g.2.2.1 42 x = _; rw [(hkk 42 (by decide)).2.2.1]; exact v1
      have e36 : rA g 36 ((σ x : Nat) : Int) = (e.1.length : Int) := by show g.2.2.1 36 (σ x) = _; rw [(hkk 36 (by decide)).2.2.1]; exact f2
      have hsub : subS S σ x = (e.1.tail, e.2) := by unfold subS stR stV; rw [if_pos hv, he]; rfl
      have htl : e.1.tail.length = e.1.length - 1 := by rw [List.length_tail]
      rw [if_pos (by omega), e42, if_pos (by omega), e36]
      have hroom : f_Expressions_rowHasRoom_39 ((e.1.length : Int) - 1) g = some ((if 24 < (repS S σ (s.row.take i)).1.length + e.1.tail.length then 0 else 1), g) := by
        unfold f_Expressions_rowHasRoom_39
        rw [if_pos (by omega), e40, if_pos (by omega)]
        by_cases z : 24 < (repS S σ (s.row.take i)).1.length + e.1.tail.length
        · rw [if_pos (by omega), if_pos z]
        · rw [if_neg (by omega), if_neg z]
      rw [bd_some hroom]
      have hlen1 : (repS S σ (s.row.take (i + 1))).1.length = (repS S σ (s.row.take i)).1.length + e.1.tail.length := by rw [htk, hsub]; show ((repS S σ (s.row.take i)).1 ++ e.1.tail).length = _; rw [List.length_append]
      by_cases z : 24 < (repS S σ (s.row.take i)).1.length + e.1.tail.length
      · rw [if_pos z, if_pos (by decide), if_pos rfl]
        refine ⟨g, ?_, hkk, fun w => absurd w (by omega)⟩
        have : ¬ (repS S σ s.row).1.length ≤ 24 := by omega
        simp [this]
      · rw [if_neg z, if_pos (by decide), if_neg (by decide), e42]
        obtain ⟨g1, a1, a2, a3⟩ := c_bodyL (g0 := g) (σ x) (by omega) e (repS S σ (s.row.take i)).1 (repS S σ (s.row.take i)).2 (by rw [(hkk 36 (by decide)).2.2.1]; exact f2) (by rw [(hkk 37 (by decide)).2.2.2]; exact f3) (by rw [(hkk 35 (by decide)).2.2.1]; exact f1) t2 (by omega) e.1.tail.length 20000 0 g (by omega) (by omega) KK.rf (by
            rw [List.take_zero, List.append_nil]; exact ⟨r1, r2, r3, r4⟩)
        have a1' : f_Expressions_appendBody_39_35 ((σ x : Nat) : Int) g = some g1 := a1
        rw [a1', Option.bind_some]
        have h3 := ih m (i + 1) g1 (by omega) (by omega) (hkk.tr a2) (by rw [htk, hsub]; exact a3) (by omega)
        exact h3
    · have hsub : subS S σ x = ([x], Int64.ofNat 0) := by unfold subS; rw [if_neg hv]
      rw [if_neg (by omega)]
      have hroom : f_Expressions_rowHasRoom_39 1 g = some ((if 24 < (repS S σ (s.row.take i)).1.length + 1 then 0 else 1), g) := by
        unfold f_Expressions_rowHasRoom_39
        rw [if_pos (by omega), e40, if_pos (by omega)]
        by_cases z : 24 < (repS S σ (s.row.take i)).1.length + 1
        · rw [if_pos (by omega), if_pos z]
        · rw [if_neg (by omega), if_neg z]
      rw [bd_some hroom]
      have hlen1 : (repS S σ (s.row.take (i + 1))).1.length = (repS S σ (s.row.take i)).1.length + 1 := by rw [htk, hsub]; show ((repS S σ (s.row.take i)).1 ++ [x]).length = _; rw [List.length_append]; rfl
      by_cases z : 24 < (repS S σ (s.row.take i)).1.length + 1
      · rw [if_pos z, if_pos (by decide), if_pos rfl]
        refine ⟨g, ?_, hkk, fun w => absurd w (by omega)⟩
        have : ¬ (repS S σ s.row).1.length ≤ 24 := by omega
        simp [this]
      · rw [if_neg z, if_pos (by decide), if_neg (by decide)]
        have ep : (((rI g 38 4) * 24) + (rA g 40 (rI g 38 4))).toNat = 0 + (repS S σ (s.row.take i)).1.length := by rw [e40, r1]; omega
        have ha : f_Expressions_append_39 (x : Int) 0 g = some (gA (gA g 39 (((rI g 38 4) * 24) + (rA g 40 (rI g 38 4))) (x : Int)) 40 (rI g 38 4) ((rA g 40 (rI g 38 4)) + 1)) := by
          unfold f_Expressions_append_39
          rw [if_pos (by omega), if_pos (by rw [e40]; omega), if_pos (by decide), if_pos rfl]
        rw [ha, Option.bind_some]
        have h3 := ih m (i + 1) (gA (gA g 39 (((rI g 38 4) * 24) + (rA g 40 (rI g 38 4))) (x : Int)) 40 (rI g 38 4) ((rA g 40 (rI g 38 4)) + 1)) (by omega) (by omega) (hkk.tr (KK.a (by decide) (KK.a (by decide) KK.rf))) (by
          rw [htk, hsub]
          refine ⟨r1, ?_, ?_, ?_⟩
          · show am_upd (g.2.2.1 40) (rI g 38 4).toNat _ 0 = _
            rw [r1, show (0 : Int).toNat = 0 from rfl, updN_at, show rA g 40 0 = ((repS S σ (s.row.take i)).1.length : Int) from r2]
            exact len1 _ _
          · show RowAt (am_upd (g.2.2.1 39) (((rI g 38 4) * 24) + (rA g 40 (rI g 38 4))).toNat _) 0 ((repS S σ (s.row.take i)).1 ++ [x])
            exact r3.app x _ rfl _ ep
          · show g.2.2.2 41 0 = (repS S σ (s.row.take i)).2 ||| Int64.ofNat 0
            rw [or_zero]; exact r4) (by omega)
        exact h3
theorem c_replaceIn {S : RSt} {g : G2} (hN : CN S g) (hS : CS S g) (hP : CPf S g) (h38 : rI g 38 4 = 0) (hs : 10 ≤ S.stage) (h16 : S.stk.length ≤ 16) (hrow : StOk S S.stk) (n60 : S.nms.length ≤ 60) (σ : Nat → Nat) (k : Nat) (s : RSm) (hk : S.sms[k]? = some s) (hk40 : k < 40) (hok : RowOk S s.row) (hrp : RpOk S g σ s.row) :
    ∃ g', f_Proof_replaceIn_34 (k : Int) g = some (b01 (decide ((repS S σ s.row).1.length ≤ 24)), g') ∧ SR g g' ∧ ((repS S σ s.row).1.length ≤ 24 → Rsl g' (repS S σ s.row)) := by
  obtain ⟨g', a1, a2, a3⟩ := c_replL hN hS hP h38 hs h16 hrow n60 σ k s hk hk40 hok hrp s.row.length 20000 0 (gB (gA g 40 (rI g 38 4) 0) 41 (rI g 38 4) (Int64.ofNat 0)) (by omega) (by have := hok.2.1; omega) (KK.b (by decide) (KK.a (by decide) KK.rf)) (by
    rw [List.take_zero]
    refine ⟨h38, ?_, RowAt.nil _ _, ?_⟩
    · show am_upd (g.2.2.1 40) (rI g 38 4).toNat 0 0 = _
      rw [h38, show (0 : Int).toNat = 0 from rfl, updN_at]; rfl
    · show am_upd (g.2.2.2 41) (rI g 38 4).toNat _ 0 = _
      rw [h38, show (0 : Int).toNat = 0 from rfl, updN_at]; rfl) (by rw [List.take_zero]; show 0 ≤ 24; decide)
  refine ⟨g', ?_, a2, a3⟩
  unfold f_Proof_replaceIn_34 f_Expressions_startRow_39
  have a1' : l_Proof_replaceIn_34 20000 0 (k : Int) 0 (gB (gA g 40 (rI g 38 4) 0) 41 (rI g 38 4) (Int64.ofNat 0)) = some (b01 (decide ((repS S σ s.row).1.length ≤ 24)), g') := a1
  rw [if_pos (by omega), Option.bind_some, a1']
