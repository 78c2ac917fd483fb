/-! ===== the reader leaves the text alone (laid by tools/keep2.py) ===== -/
def cT (r : Nat) : Prop := r < 3
theorem nTd {r : Nat} (h : decide (3 ≤ r) = true) : ¬ cT r := fun k => Nat.lt_irrefl _ (Nat.lt_of_lt_of_le k (of_decide_eq_true h))
set_option maxRecDepth 20000 in
theorem kt_b_J_fill_29_0 (L : Nat → Int64 → Int → Int → G2 → Option (G2)) (l1 : Int64) (i3 : Int) (i4 : Int) (g : G2) (hL : ∀ x0 x1 x2 x3 g, KV cT g (L x0 x1 x2 x3 g)) : KV cT g (b_J_fill_29_0 L l1 i3 i4 g) := by
  unfold b_J_fill_29_0
  repeat' (with_reducible first | refine KV.ite ?_ ?_ | refine KV.bd ?_ (fun _ _ _ => ?_) | refine KV.bind ?_ (fun _ _ => ?_) | exact KV.no | refine KV.so ?_ | refine KV.via (hL ..) ?_ | assumption | exact KK.rf | refine KK.i (nTd rfl) ?_ | refine KK.j (nTd rfl) ?_ | refine KK.a (nTd rfl) ?_ | refine KK.b (nTd rfl) ?_ | refine KK.c (nTd rfl) ?_)
set_option maxRecDepth 20000 in
theorem kt_l_J_fill_29 : ∀ (n : Nat) (x0 : Nat) (x1 : Int64) (x2 : Int) (x3 : Int) (g : G2), KV cT g (l_J_fill_29 n x0 x1 x2 x3 g) := by
  intro n
  induction n with
  | zero => intros; exact KV.no
  | succ n ih =>
    intro x0 x1 x2 x3 g
    unfold l_J_fill_29
    try dsimp only
    first | (split <;> (first  | exact kt_b_J_fill_29_0 _ _ _ _ _ ih)) | (first  | exact kt_b_J_fill_29_0 _ _ _ _ _ ih)
set_option maxRecDepth 20000 in
theorem kt_f_J_fill_29 (a1 : Int64) (g : G2) : KV cT g (f_J_fill_29 a1 g) := by
  unfold f_J_fill_29
  repeat' (with_reducible first | refine KV.ite ?_ ?_ | refine KV.bd ?_ (fun _ _ _ => ?_) | refine KV.bind ?_ (fun _ _ => ?_) | exact KV.no | refine KV.so ?_ | refine KO.via (kt_l_J_fill_29 ..) ?_ | refine KV.via (kt_l_J_fill_29 ..) ?_ | assumption | exact KK.rf | refine KK.i (nTd rfl) ?_ | refine KK.j (nTd rfl) ?_ | refine KK.a (nTd rfl) ?_ | refine KK.b (nTd rfl) ?_ | refine KK.c (nTd rfl) ?_)
set_option maxRecDepth 20000 in
theorem kt_f_Context_firstOf (a0 : Int) (g : G2) : KO cT g (f_Context_firstOf a0 g) := by
  unfold f_Context_firstOf
  repeat' (with_reducible first | refine KO.ite ?_ ?_ | refine KO.bd ?_ (fun _ _ _ => ?_) | refine KO.bind ?_ (fun _ _ => ?_) | exact KO.no | refine KO.so ?_ | assumption | exact KK.rf | refine KK.i (nTd rfl) ?_ | refine KK.j (nTd rfl) ?_ | refine KK.a (nTd rfl) ?_ | refine KK.b (nTd rfl) ?_ | refine KK.c (nTd rfl) ?_)
set_option maxRecDepth 20000 in
theorem kt_f_Context_secondOf (a0 : Int) (g : G2) : KO cT g (f_Context_secondOf a0 g) := by
  unfold f_Context_secondOf
  repeat' (with_reducible first | refine KO.ite ?_ ?_ | refine KO.bd ?_ (fun _ _ _ => ?_) | refine KO.bind ?_ (fun _ _ => ?_) | exact KO.no | refine KO.so ?_ | assumption | exact KK.rf | refine KK.i (nTd rfl) ?_ | refine KK.j (nTd rfl) ?_ | refine KK.a (nTd rfl) ?_ | refine KK.b (nTd rfl) ?_ | refine KK.c (nTd rfl) ?_)
set_option maxRecDepth 20000 in
theorem kt_f_Context_pairOf (a0 : Int) (a1 : Int) (g : G2) : KO cT g (f_Context_pairOf a0 a1 g) := by
  unfold f_Context_pairOf
  repeat' (with_reducible first | refine KO.ite ?_ ?_ | refine KO.bd ?_ (fun _ _ _ => ?_) | refine KO.bind ?_ (fun _ _ => ?_) | exact KO.no | refine KO.so ?_ | assumption | exact KK.rf | refine KK.i (nTd rfl) ?_ | refine KK.j (nTd rfl) ?_ | refine KK.a (nTd rfl) ?_ | refine KK.b (nTd rfl) ?_ | refine KK.c (nTd rfl) ?_)
set_option maxRecDepth 20000 in
theorem kt_f_Context_addPair_27 (a1 : Int) (a2 : Int) (g : G2) : KV cT g (f_Context_addPair_27 a1 a2 g) := by
  unfold f_Context_addPair_27
  repeat' (with_reducible first | refine KV.ite ?_ ?_ | refine KV.bd ?_ (fun _ _ _ => ?_) | refine KV.bind ?_ (fun _ _ => ?_) | exact KV.no | refine KV.so ?_ | refine KO.via (kt_f_Context_pairOf ..) ?_ | refine KV.via (kt_f_Context_pairOf ..) ?_ | assumption | exact KK.rf | refine KK.i (nTd rfl) ?_ | refine KK.j (nTd rfl) ?_ | refine KK.a (nTd rfl) ?_ | refine KK.b (nTd rfl) ?_ | refine KK.c (nTd rfl) ?_)
set_option maxRecDepth 20000 in
theorem kt_b_Context_forgetPairs_27_0 (L : Nat → Int → Int → G2 → Option (G2)) (i1 : Int) (i2 : Int) (g : G2) (hL : ∀ x0 x1 x2 g, KV cT g (L x0 x1 x2 g)) : KV cT g (b_Context_forgetPairs_27_0 L i1 i2 g) := by
  unfold b_Context_forgetPairs_27_0
  repeat' (with_reducible first | refine KV.ite ?_ ?_ | refine KV.bd ?_ (fun _ _ _ => ?_) | refine KV.bind ?_ (fun _ _ => ?_) | exact KV.no | refine KV.so ?_ | refine KO.via (kt_f_Context_addPair_27 ..) ?_ | refine KV.via (kt_f_Context_addPair_27 ..) ?_ | refine KO.via (kt_f_Context_firstOf ..) ?_ | refine KV.via (kt_f_Context_firstOf ..) ?_ | refine KO.via (kt_f_Context_secondOf ..) ?_ | refine KV.via (kt_f_Context_secondOf ..) ?_ | refine KV.via (hL ..) ?_ | assumption | exact KK.rf | refine KK.i (nTd rfl) ?_ | refine KK.j (nTd rfl) ?_ | refine KK.a (nTd rfl) ?_ | refine KK.b (nTd rfl) ?_ | refine KK.c (nTd rfl) ?_)
set_option maxRecDepth 20000 in
theorem kt_l_Context_forgetPairs_27 : ∀ (n : Nat) (x0 : Nat) (x1 : Int) (x2 : Int) (g : G2), KV cT g (l_Context_forgetPairs_27 n x0 x1 x2 g) := by
  intro n
  induction n with
  | zero => intros; exact KV.no
  | succ n ih =>
    intro x0 x1 x2 g
    unfold l_Context_forgetPairs_27
    try dsimp only
    first | (split <;> (first  | exact kt_b_Context_forgetPairs_27_0 _ _ _ _ ih)) | (first  | exact kt_b_Context_forgetPairs_27_0 _ _ _ _ ih)
set_option maxRecDepth 20000 in
theorem kt_f_Context_forgetPairs_27 (a1 : Int) (g : G2) : KV cT g (f_Context_forgetPairs_27 a1 g) := by
  unfold f_Context_forgetPairs_27
  repeat' (with_reducible first | refine KV.ite ?_ ?_ | refine KV.bd ?_ (fun _ _ _ => ?_) | refine KV.bind ?_ (fun _ _ => ?_) | exact KV.no | refine KV.so ?_ | refine KO.via (kt_f_J_fill_29 ..) ?_ | refine KV.via (kt_f_J_fill_29 ..) ?_ | refine KO.via (kt_l_Context_forgetPairs_27 ..) ?_ | refine KV.via (kt_l_Context_forgetPairs_27 ..) ?_ | assumption | exact KK.rf | refine KK.i (nTd rfl) ?_ | refine KK.j (nTd rfl) ?_ | refine KK.a (nTd rfl) ?_ | refine KK.b (nTd rfl) ?_ | refine KK.c (nTd rfl) ?_)
set_option maxRecDepth 20000 in
theorem kt_f_Text_keyword_2 (g : G2) : KO cT g (f_Text_keyword_2 g) := by
  unfold f_Text_keyword_2
  repeat' (with_reducible first | refine KO.ite ?_ ?_ | refine KO.bd ?_ (fun _ _ _ => ?_) | refine KO.bind ?_ (fun _ _ => ?_) | exact KO.no | refine KO.so ?_ | assumption | exact KK.rf | refine KK.i (nTd rfl) ?_ | refine KK.j (nTd rfl) ?_ | refine KK.a (nTd rfl) ?_ | refine KK.b (nTd rfl) ?_ | refine KK.c (nTd rfl) ?_)
set_option maxRecDepth 20000 in
theorem kt_f_Text_isTooLong_2 (g : G2) : KO cT g (f_Text_isTooLong_2 g) := by
  unfold f_Text_isTooLong_2
  repeat' (with_reducible first | refine KO.ite ?_ ?_ | refine KO.bd ?_ (fun _ _ _ => ?_) | refine KO.bind ?_ (fun _ _ => ?_) | exact KO.no | refine KO.so ?_ | assumption | exact KK.rf | refine KK.i (nTd rfl) ?_ | refine KK.j (nTd rfl) ?_ | refine KK.a (nTd rfl) ?_ | refine KK.b (nTd rfl) ?_ | refine KK.c (nTd rfl) ?_)
set_option maxRecDepth 20000 in
theorem kt_b_Names_find_4_0 (L : Nat → Int64 → Int → G2 → Option (Int × G2)) (l1 : Int64) (i3 : Int) (g : G2) (hL : ∀ x0 x1 x2 g, KO cT g (L x0 x1 x2 g)) : KO cT g (b_Names_find_4_0 L l1 i3 g) := by
  unfold b_Names_find_4_0
  repeat' (with_reducible first | refine KO.ite ?_ ?_ | refine KO.bd ?_ (fun _ _ _ => ?_) | refine KO.bind ?_ (fun _ _ => ?_) | exact KO.no | refine KO.so ?_ | refine KO.via (hL ..) ?_ | assumption | exact KK.rf | refine KK.i (nTd rfl) ?_ | refine KK.j (nTd rfl) ?_ | refine KK.a (nTd rfl) ?_ | refine KK.b (nTd rfl) ?_ | refine KK.c (nTd rfl) ?_)
set_option maxRecDepth 20000 in
theorem kt_l_Names_find_4 : ∀ (n : Nat) (x0 : Nat) (x1 : Int64) (x2 : Int) (g : G2), KO cT g (l_Names_find_4 n x0 x1 x2 g) := by
  intro n
  induction n with
  | zero => intros; exact KO.no
  | succ n ih =>
    intro x0 x1 x2 g
    unfold l_Names_find_4
    try dsimp only
    first | (split <;> (first  | exact kt_b_Names_find_4_0 _ _ _ _ ih)) | (first  | exact kt_b_Names_find_4_0 _ _ _ _ ih)
set_option maxRecDepth 20000 in
theorem kt_f_Names_find_4 (a1 : Int64) (g : G2) : KO cT g (f_Names_find_4 a1 g) := by
  unfold f_Names_find_4
  repeat' (with_reducible first | refine KO.ite ?_ ?_ | refine KO.bd ?_ (fun _ _ _ => ?_) | refine KO.bind ?_ (fun _ _ => ?_) | exact KO.no | refine KO.so ?_ | refine KO.via (kt_l_Names_find_4 ..) ?_ | refine KV.via (kt_l_Names_find_4 ..) ?_ | assumption | exact KK.rf | refine KK.i (nTd rfl) ?_ | refine KK.j (nTd rfl) ?_ | refine KK.a (nTd rfl) ?_ | refine KK.b (nTd rfl) ?_ | refine KK.c (nTd rfl) ?_)
set_option maxRecDepth 20000 in
theorem kt_f_Names_isFull_4 (g : G2) : KO cT g (f_Names_isFull_4 g) := by
  unfold f_Names_isFull_4
  repeat' (with_reducible first | refine KO.ite ?_ ?_ | refine KO.bd ?_ (fun _ _ _ => ?_) | refine KO.bind ?_ (fun _ _ => ?_) | exact KO.no | refine KO.so ?_ | assumption | exact KK.rf | refine KK.i (nTd rfl) ?_ | refine KK.j (nTd rfl) ?_ | refine KK.a (nTd rfl) ?_ | refine KK.b (nTd rfl) ?_ | refine KK.c (nTd rfl) ?_)
set_option maxRecDepth 20000 in
theorem kt_f_Expressions_isFull_11 (g : G2) : KO cT g (f_Expressions_isFull_11 g) := by
  unfold f_Expressions_isFull_11
  repeat' (with_reducible first | refine KO.ite ?_ ?_ | refine KO.bd ?_ (fun _ _ _ => ?_) | refine KO.bind ?_ (fun _ _ => ?_) | exact KO.no | refine KO.so ?_ | assumption | exact KK.rf | refine KK.i (nTd rfl) ?_ | refine KK.j (nTd rfl) ?_ | refine KK.a (nTd rfl) ?_ | refine KK.b (nTd rfl) ?_ | refine KK.c (nTd rfl) ?_)
set_option maxRecDepth 20000 in
theorem kt_f_Expressions_startRow_11 (g : G2) : KV cT g (f_Expressions_startRow_11 g) := by
  unfold f_Expressions_startRow_11
  repeat' (with_reducible first | refine KV.ite ?_ ?_ | refine KV.bd ?_ (fun _ _ _ => ?_) | refine KV.bind ?_ (fun _ _ => ?_) | exact KV.no | refine KV.so ?_ | assumption | exact KK.rf | refine KK.i (nTd rfl) ?_ | refine KK.j (nTd rfl) ?_ | refine KK.a (nTd rfl) ?_ | refine KK.b (nTd rfl) ?_ | refine KK.c (nTd rfl) ?_)
set_option maxRecDepth 20000 in
theorem kt_f_Statements_start_8 (a1 : Int64) (g : G2) : KV cT g (f_Statements_start_8 a1 g) := by
  unfold f_Statements_start_8
  repeat' (with_reducible first | refine KV.ite ?_ ?_ | refine KV.bd ?_ (fun _ _ _ => ?_) | refine KV.bind ?_ (fun _ _ => ?_) | exact KV.no | refine KV.so ?_ | refine KO.via (kt_f_Expressions_startRow_11 ..) ?_ | refine KV.via (kt_f_Expressions_startRow_11 ..) ?_ | assumption | exact KK.rf | refine KK.i (nTd rfl) ?_ | refine KK.j (nTd rfl) ?_ | refine KK.a (nTd rfl) ?_ | refine KK.b (nTd rfl) ?_ | refine KK.c (nTd rfl) ?_)
set_option maxRecDepth 20000 in
theorem kt_f_Reader_takeLabel_26 (a1 : Int64) (g : G2) : KO cT g (f_Reader_takeLabel_26 a1 g) := by
  unfold f_Reader_takeLabel_26
  repeat' (with_reducible first | refine KO.ite ?_ ?_ | refine KO.bd ?_ (fun _ _ _ => ?_) | refine KO.bind ?_ (fun _ _ => ?_) | exact KO.no | refine KO.so ?_ | refine KO.via (kt_f_Expressions_isFull_11 ..) ?_ | refine KV.via (kt_f_Expressions_isFull_11 ..) ?_ | refine KO.via (kt_f_Names_find_4 ..) ?_ | refine KV.via (kt_f_Names_find_4 ..) ?_ | refine KO.via (kt_f_Names_isFull_4 ..) ?_ | refine KV.via (kt_f_Names_isFull_4 ..) ?_ | refine KO.via (kt_f_Statements_start_8 ..) ?_ | refine KV.via (kt_f_Statements_start_8 ..) ?_ | assumption | exact KK.rf | refine KK.i (nTd rfl) ?_ | refine KK.j (nTd rfl) ?_ | refine KK.a (nTd rfl) ?_ | refine KK.b (nTd rfl) ?_ | refine KK.c (nTd rfl) ?_)
set_option maxRecDepth 20000 in
theorem kt_f_Names_add_4 (a1 : Int64) (a3 : Int) (g : G2) : KO cT g (f_Names_add_4 a1 a3 g) := by
  unfold f_Names_add_4
  repeat' (with_reducible first | refine KO.ite ?_ ?_ | refine KO.bd ?_ (fun _ _ _ => ?_) | refine KO.bind ?_ (fun _ _ => ?_) | exact KO.no | refine KO.so ?_ | assumption | exact KK.rf | refine KK.i (nTd rfl) ?_ | refine KK.j (nTd rfl) ?_ | refine KK.a (nTd rfl) ?_ | refine KK.b (nTd rfl) ?_ | refine KK.c (nTd rfl) ?_)
set_option maxRecDepth 20000 in
theorem kt_f_Reader_declareConstant_26 (a1 : Int64) (g : G2) : KO cT g (f_Reader_declareConstant_26 a1 g) := by
  unfold f_Reader_declareConstant_26
  repeat' (with_reducible first | refine KO.ite ?_ ?_ | refine KO.bd ?_ (fun _ _ _ => ?_) | refine KO.bind ?_ (fun _ _ => ?_) | exact KO.no | refine KO.so ?_ | refine KO.via (kt_f_Names_add_4 ..) ?_ | refine KV.via (kt_f_Names_add_4 ..) ?_ | refine KO.via (kt_f_Names_find_4 ..) ?_ | refine KV.via (kt_f_Names_find_4 ..) ?_ | refine KO.via (kt_f_Names_isFull_4 ..) ?_ | refine KV.via (kt_f_Names_isFull_4 ..) ?_ | assumption | exact KK.rf | refine KK.i (nTd rfl) ?_ | refine KK.j (nTd rfl) ?_ | refine KK.a (nTd rfl) ?_ | refine KK.b (nTd rfl) ?_ | refine KK.c (nTd rfl) ?_)
set_option maxRecDepth 20000 in
theorem kt_f_Reader_isActive_26 (a1 : Int) (g : G2) : KO cT g (f_Reader_isActive_26 a1 g) := by
  unfold f_Reader_isActive_26
  repeat' (with_reducible first | refine KO.ite ?_ ?_ | refine KO.bd ?_ (fun _ _ _ => ?_) | refine KO.bind ?_ (fun _ _ => ?_) | exact KO.no | refine KO.so ?_ | assumption | exact KK.rf | refine KK.i (nTd rfl) ?_ | refine KK.j (nTd rfl) ?_ | refine KK.a (nTd rfl) ?_ | refine KK.b (nTd rfl) ?_ | refine KK.c (nTd rfl) ?_)
set_option maxRecDepth 20000 in
theorem kt_f_Reader_declareVariable_26 (a1 : Int64) (g : G2) : KO cT g (f_Reader_declareVariable_26 a1 g) := by
  unfold f_Reader_declareVariable_26
  repeat' (with_reducible first | refine KO.ite ?_ ?_ | refine KO.bd ?_ (fun _ _ _ => ?_) | refine KO.bind ?_ (fun _ _ => ?_) | exact KO.no | refine KO.so ?_ | refine KO.via (kt_f_Names_add_4 ..) ?_ | refine KV.via (kt_f_Names_add_4 ..) ?_ | refine KO.via (kt_f_Names_find_4 ..) ?_ | refine KV.via (kt_f_Names_find_4 ..) ?_ | refine KO.via (kt_f_Names_isFull_4 ..) ?_ | refine KV.via (kt_f_Names_isFull_4 ..) ?_ | refine KO.via (kt_f_Reader_isActive_26 ..) ?_ | refine KV.via (kt_f_Reader_isActive_26 ..) ?_ | assumption | exact KK.rf | refine KK.i (nTd rfl) ?_ | refine KK.j (nTd rfl) ?_ | refine KK.a (nTd rfl) ?_ | refine KK.b (nTd rfl) ?_ | refine KK.c (nTd rfl) ?_)
set_option maxRecDepth 20000 in
theorem kt_f_Reader_meaningOf_26 (a1 : Int) (g : G2) : KO cT g (f_Reader_meaningOf_26 a1 g) := by
  unfold f_Reader_meaningOf_26
  repeat' (with_reducible first | refine KO.ite ?_ ?_ | refine KO.bd ?_ (fun _ _ _ => ?_) | refine KO.bind ?_ (fun _ _ => ?_) | exact KO.no | refine KO.so ?_ | refine KO.via (kt_f_Reader_isActive_26 ..) ?_ | refine KV.via (kt_f_Reader_isActive_26 ..) ?_ | assumption | exact KK.rf | refine KK.i (nTd rfl) ?_ | refine KK.j (nTd rfl) ?_ | refine KK.a (nTd rfl) ?_ | refine KK.b (nTd rfl) ?_ | refine KK.c (nTd rfl) ?_)
set_option maxRecDepth 20000 in
theorem kt_b_Reader_takeApart_26_0 (L : Nat → Int → Int → G2 → Option (Int × G2)) (i1 : Int) (i3 : Int) (g : G2) (hL : ∀ x0 x1 x2 g, KO cT g (L x0 x1 x2 g)) : KO cT g (b_Reader_takeApart_26_0 L i1 i3 g) := by
  unfold b_Reader_takeApart_26_0
  repeat' (with_reducible first | refine KO.ite ?_ ?_ | refine KO.bd ?_ (fun _ _ _ => ?_) | refine KO.bind ?_ (fun _ _ => ?_) | exact KO.no | refine KO.so ?_ | refine KO.via (kt_f_Context_addPair_27 ..) ?_ | refine KV.via (kt_f_Context_addPair_27 ..) ?_ | refine KO.via (hL ..) ?_ | assumption | exact KK.rf | refine KK.i (nTd rfl) ?_ | refine KK.j (nTd rfl) ?_ | refine KK.a (nTd rfl) ?_ | refine KK.b (nTd rfl) ?_ | refine KK.c (nTd rfl) ?_)
set_option maxRecDepth 20000 in
theorem kt_l_Reader_takeApart_26 : ∀ (n : Nat) (x0 : Nat) (x1 : Int) (x2 : Int) (g : G2), KO cT g (l_Reader_takeApart_26 n x0 x1 x2 g) := by
  intro n
  induction n with
  | zero => intros; exact KO.no
  | succ n ih =>
    intro x0 x1 x2 g
    unfold l_Reader_takeApart_26
    try dsimp only
    first | (split <;> (first  | exact kt_b_Reader_takeApart_26_0 _ _ _ _ ih)) | (first  | exact kt_b_Reader_takeApart_26_0 _ _ _ _ ih)
set_option maxRecDepth 20000 in
theorem kt_f_Reader_takeApart_26 (a1 : Int) (g : G2) : KO cT g (f_Reader_takeApart_26 a1 g) := by
  unfold f_Reader_takeApart_26
  repeat' (with_reducible first | refine KO.ite ?_ ?_ | refine KO.bd ?_ (fun _ _ _ => ?_) | refine KO.bind ?_ (fun _ _ => ?_) | exact KO.no | refine KO.so ?_ | refine KO.via (kt_f_Reader_meaningOf_26 ..) ?_ | refine KV.via (kt_f_Reader_meaningOf_26 ..) ?_ | refine KO.via (kt_l_Reader_takeApart_26 ..) ?_ | refine KV.via (kt_l_Reader_takeApart_26 ..) ?_ | assumption | exact KK.rf | refine KK.i (nTd rfl) ?_ | refine KK.j (nTd rfl) ?_ | refine KK.a (nTd rfl) ?_ | refine KK.b (nTd rfl) ?_ | refine KK.c (nTd rfl) ?_)
set_option maxRecDepth 20000 in
theorem kt_f_Expressions_append_11 (a1 : Int) (a2 : Int) (g : G2) : KV cT g (f_Expressions_append_11 a1 a2 g) := by
  unfold f_Expressions_append_11
  repeat' (with_reducible first | refine KV.ite ?_ ?_ | refine KV.bd ?_ (fun _ _ _ => ?_) | refine KV.bind ?_ (fun _ _ => ?_) | exact KV.no | refine KV.so ?_ | assumption | exact KK.rf | refine KK.i (nTd rfl) ?_ | refine KK.j (nTd rfl) ?_ | refine KK.a (nTd rfl) ?_ | refine KK.b (nTd rfl) ?_ | refine KK.c (nTd rfl) ?_)
set_option maxRecDepth 20000 in
theorem kt_f_Reader_takeType_26 (a1 : Int) (g : G2) : KO cT g (f_Reader_takeType_26 a1 g) := by
  unfold f_Reader_takeType_26
  repeat' (with_reducible first | refine KO.ite ?_ ?_ | refine KO.bd ?_ (fun _ _ _ => ?_) | refine KO.bind ?_ (fun _ _ => ?_) | exact KO.no | refine KO.so ?_ | refine KO.via (kt_f_Expressions_append_11 ..) ?_ | refine KV.via (kt_f_Expressions_append_11 ..) ?_ | refine KO.via (kt_f_Reader_meaningOf_26 ..) ?_ | refine KV.via (kt_f_Reader_meaningOf_26 ..) ?_ | assumption | exact KK.rf | refine KK.i (nTd rfl) ?_ | refine KK.j (nTd rfl) ?_ | refine KK.a (nTd rfl) ?_ | refine KK.b (nTd rfl) ?_ | refine KK.c (nTd rfl) ?_)
set_option maxRecDepth 20000 in
theorem kt_f_Reader_isTyped_26 (a1 : Int) (g : G2) : KO cT g (f_Reader_isTyped_26 a1 g) := by
  unfold f_Reader_isTyped_26
  repeat' (with_reducible first | refine KO.ite ?_ ?_ | refine KO.bd ?_ (fun _ _ _ => ?_) | refine KO.bind ?_ (fun _ _ => ?_) | exact KO.no | refine KO.so ?_ | assumption | exact KK.rf | refine KK.i (nTd rfl) ?_ | refine KK.j (nTd rfl) ?_ | refine KK.a (nTd rfl) ?_ | refine KK.b (nTd rfl) ?_ | refine KK.c (nTd rfl) ?_)
set_option maxRecDepth 20000 in
theorem kt_f_Reader_takeFloating_26 (a1 : Int) (g : G2) : KO cT g (f_Reader_takeFloating_26 a1 g) := by
  unfold f_Reader_takeFloating_26
  repeat' (with_reducible first | refine KO.ite ?_ ?_ | refine KO.bd ?_ (fun _ _ _ => ?_) | refine KO.bind ?_ (fun _ _ => ?_) | exact KO.no | refine KO.so ?_ | refine KO.via (kt_f_Expressions_append_11 ..) ?_ | refine KV.via (kt_f_Expressions_append_11 ..) ?_ | refine KO.via (kt_f_Reader_isTyped_26 ..) ?_ | refine KV.via (kt_f_Reader_isTyped_26 ..) ?_ | refine KO.via (kt_f_Reader_meaningOf_26 ..) ?_ | refine KV.via (kt_f_Reader_meaningOf_26 ..) ?_ | assumption | exact KK.rf | refine KK.i (nTd rfl) ?_ | refine KK.j (nTd rfl) ?_ | refine KK.a (nTd rfl) ?_ | refine KK.b (nTd rfl) ?_ | refine KK.c (nTd rfl) ?_)
set_option maxRecDepth 20000 in
theorem kt_f_Expressions_rowHasRoom_11 (a1 : Int) (g : G2) : KO cT g (f_Expressions_rowHasRoom_11 a1 g) := by
  unfold f_Expressions_rowHasRoom_11
  repeat' (with_reducible first | refine KO.ite ?_ ?_ | refine KO.bd ?_ (fun _ _ _ => ?_) | refine KO.bind ?_ (fun _ _ => ?_) | exact KO.no | refine KO.so ?_ | assumption | exact KK.rf | refine KK.i (nTd rfl) ?_ | refine KK.j (nTd rfl) ?_ | refine KK.a (nTd rfl) ?_ | refine KK.b (nTd rfl) ?_ | refine KK.c (nTd rfl) ?_)
set_option maxRecDepth 20000 in
theorem kt_f_Reader_takeSymbol_26 (a1 : Int) (g : G2) : KO cT g (f_Reader_takeSymbol_26 a1 g) := by
  unfold f_Reader_takeSymbol_26
  repeat' (with_reducible first | refine KO.ite ?_ ?_ | refine KO.bd ?_ (fun _ _ _ => ?_) | refine KO.bind ?_ (fun _ _ => ?_) | exact KO.no | refine KO.so ?_ | refine KO.via (kt_f_Expressions_append_11 ..) ?_ | refine KV.via (kt_f_Expressions_append_11 ..) ?_ | refine KO.via (kt_f_Expressions_rowHasRoom_11 ..) ?_ | refine KV.via (kt_f_Expressions_rowHasRoom_11 ..) ?_ | refine KO.via (kt_f_Reader_isTyped_26 ..) ?_ | refine KV.via (kt_f_Reader_isTyped_26 ..) ?_ | refine KO.via (kt_f_Reader_meaningOf_26 ..) ?_ | refine KV.via (kt_f_Reader_meaningOf_26 ..) ?_ | assumption | exact KK.rf | refine KK.i (nTd rfl) ?_ | refine KK.j (nTd rfl) ?_ | refine KK.a (nTd rfl) ?_ | refine KK.b (nTd rfl) ?_ | refine KK.c (nTd rfl) ?_)
set_option maxRecDepth 20000 in
theorem kt_f_Statements_isMandatory_8 (a1 : Int) (a2 : Int) (g : G2) : KO cT g (f_Statements_isMandatory_8 a1 a2 g) := by
  unfold f_Statements_isMandatory_8
  repeat' (with_reducible first | refine KO.ite ?_ ?_ | refine KO.bd ?_ (fun _ _ _ => ?_) | refine KO.bind ?_ (fun _ _ => ?_) | exact KO.no | refine KO.so ?_ | assumption | exact KK.rf | refine KK.i (nTd rfl) ?_ | refine KK.j (nTd rfl) ?_ | refine KK.a (nTd rfl) ?_ | refine KK.b (nTd rfl) ?_ | refine KK.c (nTd rfl) ?_)
set_option maxRecDepth 20000 in
theorem kt_b_Letters_begin_44_0 (L : Nat → Int → Int → G2 → Option (G2)) (i1 : Int) (i2 : Int) (g : G2) (hL : ∀ x0 x1 x2 g, KV cT g (L x0 x1 x2 g)) : KV cT g (b_Letters_begin_44_0 L i1 i2 g) := by
  unfold b_Letters_begin_44_0
  repeat' (with_reducible first | refine KV.ite ?_ ?_ | refine KV.bd ?_ (fun _ _ _ => ?_) | refine KV.bind ?_ (fun _ _ => ?_) | exact KV.no | refine KV.so ?_ | refine KO.via (kt_f_Statements_isMandatory_8 ..) ?_ | refine KV.via (kt_f_Statements_isMandatory_8 ..) ?_ | refine KV.via (hL ..) ?_ | assumption | exact KK.rf | refine KK.i (nTd rfl) ?_ | refine KK.j (nTd rfl) ?_ | refine KK.a (nTd rfl) ?_ | refine KK.b (nTd rfl) ?_ | refine KK.c (nTd rfl) ?_)
set_option maxRecDepth 20000 in
theorem kt_l_Letters_begin_44 : ∀ (n : Nat) (x0 : Nat) (x1 : Int) (x2 : Int) (g : G2), KV cT g (l_Letters_begin_44 n x0 x1 x2 g) := by
  intro n
  induction n with
  | zero => intros; exact KV.no
  | succ n ih =>
    intro x0 x1 x2 g
    unfold l_Letters_begin_44
    try dsimp only
    first | (split <;> (first  | exact kt_b_Letters_begin_44_0 _ _ _ _ ih)) | (first  | exact kt_b_Letters_begin_44_0 _ _ _ _ ih)
set_option maxRecDepth 20000 in
theorem kt_f_Letters_begin_44 (a1 : Int) (g : G2) : KV cT g (f_Letters_begin_44 a1 g) := by
  unfold f_Letters_begin_44
  repeat' (with_reducible first | refine KV.ite ?_ ?_ | refine KV.bd ?_ (fun _ _ _ => ?_) | refine KV.bind ?_ (fun _ _ => ?_) | exact KV.no | refine KV.so ?_ | refine KO.via (kt_l_Letters_begin_44 ..) ?_ | refine KV.via (kt_l_Letters_begin_44 ..) ?_ | assumption | exact KK.rf | refine KK.i (nTd rfl) ?_ | refine KK.j (nTd rfl) ?_ | refine KK.a (nTd rfl) ?_ | refine KK.b (nTd rfl) ?_ | refine KK.c (nTd rfl) ?_)
set_option maxRecDepth 20000 in
theorem kt_f_Assertions_noteGap_17 (g : G2) : KV cT g (f_Assertions_noteGap_17 g) := by
  unfold f_Assertions_noteGap_17
  repeat' (with_reducible first | refine KV.ite ?_ ?_ | refine KV.bd ?_ (fun _ _ _ => ?_) | refine KV.bind ?_ (fun _ _ => ?_) | exact KV.no | refine KV.so ?_ | assumption | exact KK.rf | refine KK.i (nTd rfl) ?_ | refine KK.j (nTd rfl) ?_ | refine KK.a (nTd rfl) ?_ | refine KK.b (nTd rfl) ?_ | refine KK.c (nTd rfl) ?_)
set_option maxRecDepth 20000 in
theorem kt_f_Proof_leaveGap_34 (g : G2) : KV cT g (f_Proof_leaveGap_34 g) := by
  unfold f_Proof_leaveGap_34
  repeat' (with_reducible first | refine KV.ite ?_ ?_ | refine KV.bd ?_ (fun _ _ _ => ?_) | refine KV.bind ?_ (fun _ _ => ?_) | exact KV.no | refine KV.so ?_ | refine KO.via (kt_f_Assertions_noteGap_17 ..) ?_ | refine KV.via (kt_f_Assertions_noteGap_17 ..) ?_ | assumption | exact KK.rf | refine KK.i (nTd rfl) ?_ | refine KK.j (nTd rfl) ?_ | refine KK.a (nTd rfl) ?_ | refine KK.b (nTd rfl) ?_ | refine KK.c (nTd rfl) ?_)
set_option maxRecDepth 20000 in
theorem kt_f_Statements_isHypothesis_8 (a1 : Int) (g : G2) : KO cT g (f_Statements_isHypothesis_8 a1 g) := by
  unfold f_Statements_isHypothesis_8
  repeat' (with_reducible first | refine KO.ite ?_ ?_ | refine KO.bd ?_ (fun _ _ _ => ?_) | refine KO.bind ?_ (fun _ _ => ?_) | exact KO.no | refine KO.so ?_ | assumption | exact KK.rf | refine KK.i (nTd rfl) ?_ | refine KK.j (nTd rfl) ?_ | refine KK.a (nTd rfl) ?_ | refine KK.b (nTd rfl) ?_ | refine KK.c (nTd rfl) ?_)
set_option maxRecDepth 20000 in
theorem kt_f_Reader_isActiveHypothesis_26 (a1 : Int) (g : G2) : KO cT g (f_Reader_isActiveHypothesis_26 a1 g) := by
  unfold f_Reader_isActiveHypothesis_26
  repeat' (with_reducible first | refine KO.ite ?_ ?_ | refine KO.bd ?_ (fun _ _ _ => ?_) | refine KO.bind ?_ (fun _ _ => ?_) | exact KO.no | refine KO.so ?_ | assumption | exact KK.rf | refine KK.i (nTd rfl) ?_ | refine KK.j (nTd rfl) ?_ | refine KK.a (nTd rfl) ?_ | refine KK.b (nTd rfl) ?_ | refine KK.c (nTd rfl) ?_)
set_option maxRecDepth 20000 in
theorem kt_f_Reader_findUsable_26 (a1 : Int64) (g : G2) : KO cT g (f_Reader_findUsable_26 a1 g) := by
  unfold f_Reader_findUsable_26
  repeat' (with_reducible first | refine KO.ite ?_ ?_ | refine KO.bd ?_ (fun _ _ _ => ?_) | refine KO.bind ?_ (fun _ _ => ?_) | exact KO.no | refine KO.so ?_ | refine KO.via (kt_f_Names_find_4 ..) ?_ | refine KV.via (kt_f_Names_find_4 ..) ?_ | refine KO.via (kt_f_Reader_isActiveHypothesis_26 ..) ?_ | refine KV.via (kt_f_Reader_isActiveHypothesis_26 ..) ?_ | refine KO.via (kt_f_Statements_isHypothesis_8 ..) ?_ | refine KV.via (kt_f_Statements_isHypothesis_8 ..) ?_ | assumption | exact KK.rf | refine KK.i (nTd rfl) ?_ | refine KK.j (nTd rfl) ?_ | refine KK.a (nTd rfl) ?_ | refine KK.b (nTd rfl) ?_ | refine KK.c (nTd rfl) ?_)
set_option maxRecDepth 20000 in
theorem kt_f_J_bitCount (a0 : Int64) (g : G2) : KO cT g (f_J_bitCount a0 g) := by
  unfold f_J_bitCount
  repeat' (with_reducible first | refine KO.ite ?_ ?_ | refine KO.bd ?_ (fun _ _ _ => ?_) | refine KO.bind ?_ (fun _ _ => ?_) | exact KO.no | refine KO.so ?_ | assumption | exact KK.rf | refine KK.i (nTd rfl) ?_ | refine KK.j (nTd rfl) ?_ | refine KK.a (nTd rfl) ?_ | refine KK.b (nTd rfl) ?_ | refine KK.c (nTd rfl) ?_)
set_option maxRecDepth 20000 in
theorem kt_f_Expressions_symbolAt_35 (a1 : Int) (a2 : Int) (g : G2) : KO cT g (f_Expressions_symbolAt_35 a1 a2 g) := by
  unfold f_Expressions_symbolAt_35
  repeat' (with_reducible first | refine KO.ite ?_ ?_ | refine KO.bd ?_ (fun _ _ _ => ?_) | refine KO.bind ?_ (fun _ _ => ?_) | exact KO.no | refine KO.so ?_ | assumption | exact KK.rf | refine KK.i (nTd rfl) ?_ | refine KK.j (nTd rfl) ?_ | refine KK.a (nTd rfl) ?_ | refine KK.b (nTd rfl) ?_ | refine KK.c (nTd rfl) ?_)
set_option maxRecDepth 20000 in
theorem kt_f_Expressions_symbolAt_11 (a1 : Int) (a2 : Int) (g : G2) : KO cT g (f_Expressions_symbolAt_11 a1 a2 g) := by
  unfold f_Expressions_symbolAt_11
  repeat' (with_reducible first | refine KO.ite ?_ ?_ | refine KO.bd ?_ (fun _ _ _ => ?_) | refine KO.bind ?_ (fun _ _ => ?_) | exact KO.no | refine KO.so ?_ | assumption | exact KK.rf | refine KK.i (nTd rfl) ?_ | refine KK.j (nTd rfl) ?_ | refine KK.a (nTd rfl) ?_ | refine KK.b (nTd rfl) ?_ | refine KK.c (nTd rfl) ?_)
set_option maxRecDepth 20000 in
theorem kt_f_Expressions_startRow_39 (g : G2) : KV cT g (f_Expressions_startRow_39 g) := by
  unfold f_Expressions_startRow_39
  repeat' (with_reducible first | refine KV.ite ?_ ?_ | refine KV.bd ?_ (fun _ _ _ => ?_) | refine KV.bind ?_ (fun _ _ => ?_) | exact KV.no | refine KV.so ?_ | assumption | exact KK.rf | refine KK.i (nTd rfl) ?_ | refine KK.j (nTd rfl) ?_ | refine KK.a (nTd rfl) ?_ | refine KK.b (nTd rfl) ?_ | refine KK.c (nTd rfl) ?_)
set_option maxRecDepth 20000 in
theorem kt_f_Expressions_rowHasRoom_39 (a1 : Int) (g : G2) : KO cT g (f_Expressions_rowHasRoom_39 a1 g) := by
  unfold f_Expressions_rowHasRoom_39
  repeat' (with_reducible first | refine KO.ite ?_ ?_ | refine KO.bd ?_ (fun _ _ _ => ?_) | refine KO.bind ?_ (fun _ _ => ?_) | exact KO.no | refine KO.so ?_ | assumption | exact KK.rf | refine KK.i (nTd rfl) ?_ | refine KK.j (nTd rfl) ?_ | refine KK.a (nTd rfl) ?_ | refine KK.b (nTd rfl) ?_ | refine KK.c (nTd rfl) ?_)
set_option maxRecDepth 20000 in
theorem kt_b_Expressions_appendBody_39_35_0 (L : Nat → Int → Int → G2 → Option (G2)) (i2 : Int) (i3 : Int) (g : G2) (hL : ∀ x0 x1 x2 g, KV cT g (L x0 x1 x2 g)) : KV cT g (b_Expressions_appendBody_39_35_0 L i2 i3 g) := by
  unfold b_Expressions_appendBody_39_35_0
  repeat' (with_reducible first | refine KV.ite ?_ ?_ | refine KV.bd ?_ (fun _ _ _ => ?_) | refine KV.bind ?_ (fun _ _ => ?_) | exact KV.no | refine KV.so ?_ | refine KV.via (hL ..) ?_ | assumption | exact KK.rf | refine KK.i (nTd rfl) ?_ | refine KK.j (nTd rfl) ?_ | refine KK.a (nTd rfl) ?_ | refine KK.b (nTd rfl) ?_ | refine KK.c (nTd rfl) ?_)
set_option maxRecDepth 20000 in
theorem kt_l_Expressions_appendBody_39_35 : ∀ (n : Nat) (x0 : Nat) (x1 : Int) (x2 : Int) (g : G2), KV cT g (l_Expressions_appendBody_39_35 n x0 x1 x2 g) := by
  intro n
  induction n with
  | zero => intros; exact KV.no
  | succ n ih =>
    intro x0 x1 x2 g
    unfold l_Expressions_appendBody_39_35
    try dsimp only
    first | (split <;> (first  | exact kt_b_Expressions_appendBody_39_35_0 _ _ _ _ ih)) | (first  | exact kt_b_Expressions_appendBody_39_35_0 _ _ _ _ ih)
set_option maxRecDepth 20000 in
theorem kt_f_Expressions_appendBody_39_35 (a2 : Int) (g : G2) : KV cT g (f_Expressions_appendBody_39_35 a2 g) := by
  unfold f_Expressions_appendBody_39_35
  repeat' (with_reducible first | refine KV.ite ?_ ?_ | refine KV.bd ?_ (fun _ _ _ => ?_) | refine KV.bind ?_ (fun _ _ => ?_) | exact KV.no | refine KV.so ?_ | refine KO.via (kt_l_Expressions_appendBody_39_35 ..) ?_ | refine KV.via (kt_l_Expressions_appendBody_39_35 ..) ?_ | assumption | exact KK.rf | refine KK.i (nTd rfl) ?_ | refine KK.j (nTd rfl) ?_ | refine KK.a (nTd rfl) ?_ | refine KK.b (nTd rfl) ?_ | refine KK.c (nTd rfl) ?_)
set_option maxRecDepth 20000 in
theorem kt_f_Expressions_append_39 (a1 : Int) (a2 : Int) (g : G2) : KV cT g (f_Expressions_append_39 a1 a2 g) := by
  unfold f_Expressions_append_39
  repeat' (with_reducible first | refine KV.ite ?_ ?_ | refine KV.bd ?_ (fun _ _ _ => ?_) | refine KV.bind ?_ (fun _ _ => ?_) | exact KV.no | refine KV.so ?_ | assumption | exact KK.rf | refine KK.i (nTd rfl) ?_ | refine KK.j (nTd rfl) ?_ | refine KK.a (nTd rfl) ?_ | refine KK.b (nTd rfl) ?_ | refine KK.c (nTd rfl) ?_)
set_option maxRecDepth 20000 in
theorem kt_b_Proof_replaceIn_34_0 (L : Nat → Int → Int → G2 → Option (Int × G2)) (i1 : Int) (i3 : Int) (g : G2) (hL : ∀ x0 x1 x2 g, KO cT g (L x0 x1 x2 g)) : KO cT g (b_Proof_replaceIn_34_0 L i1 i3 g) := by
  unfold b_Proof_replaceIn_34_0
  repeat' (with_reducible first | refine KO.ite ?_ ?_ | refine KO.bd ?_ (fun _ _ _ => ?_) | refine KO.bind ?_ (fun _ _ => ?_) | exact KO.no | refine KO.so ?_ | refine KO.via (kt_f_Expressions_appendBody_39_35 ..) ?_ | refine KV.via (kt_f_Expressions_appendBody_39_35 ..) ?_ | refine KO.via (kt_f_Expressions_append_39 ..) ?_ | refine KV.via (kt_f_Expressions_append_39 ..) ?_ | refine KO.via (kt_f_Expressions_rowHasRoom_39 ..) ?_ | refine KV.via (kt_f_Expressions_rowHasRoom_39 ..) ?_ | refine KO.via (kt_f_Expressions_symbolAt_11 ..) ?_ | refine KV.via (kt_f_Expressions_symbolAt_11 ..) ?_ | refine KO.via (hL ..) ?_ | assumption | exact KK.rf | refine KK.i (nTd rfl) ?_ | refine KK.j (nTd rfl) ?_ | refine KK.a (nTd rfl) ?_ | refine KK.b (nTd rfl) ?_ | refine KK.c (nTd rfl) ?_)
set_option maxRecDepth 20000 in
theorem kt_l_Proof_replaceIn_34 : ∀ (n : Nat) (x0 : Nat) (x1 : Int) (x2 : Int) (g : G2), KO cT g (l_Proof_replaceIn_34 n x0 x1 x2 g) := by
  intro n
  induction n with
  | zero => intros; exact KO.no
  | succ n ih =>
    intro x0 x1 x2 g
    unfold l_Proof_replaceIn_34
    try dsimp only
    first | (split <;> (first  | exact kt_b_Proof_replaceIn_34_0 _ _ _ _ ih)) | (first  | exact kt_b_Proof_replaceIn_34_0 _ _ _ _ ih)
set_option maxRecDepth 20000 in
theorem kt_f_Proof_replaceIn_34 (a1 : Int) (g : G2) : KO cT g (f_Proof_replaceIn_34 a1 g) := by
  unfold f_Proof_replaceIn_34
  repeat' (with_reducible first | refine KO.ite ?_ ?_ | refine KO.bd ?_ (fun _ _ _ => ?_) | refine KO.bind ?_ (fun _ _ => ?_) | exact KO.no | refine KO.so ?_ | refine KO.via (kt_f_Expressions_startRow_39 ..) ?_ | refine KV.via (kt_f_Expressions_startRow_39 ..) ?_ | refine KO.via (kt_l_Proof_replaceIn_34 ..) ?_ | refine KV.via (kt_l_Proof_replaceIn_34 ..) ?_ | assumption | exact KK.rf | refine KK.i (nTd rfl) ?_ | refine KK.j (nTd rfl) ?_ | refine KK.a (nTd rfl) ?_ | refine KK.b (nTd rfl) ?_ | refine KK.c (nTd rfl) ?_)
set_option maxRecDepth 20000 in
theorem kt_b_Expressions_isSame_35_39_0 (L : Nat → Int → Int → Int → G2 → Option (Int × G2)) (i1 : Int) (i3 : Int) (i4 : Int) (g : G2) (hL : ∀ x0 x1 x2 x3 g, KO cT g (L x0 x1 x2 x3 g)) : KO cT g (b_Expressions_isSame_35_39_0 L i1 i3 i4 g) := by
  unfold b_Expressions_isSame_35_39_0
  repeat' (with_reducible first | refine KO.ite ?_ ?_ | refine KO.bd ?_ (fun _ _ _ => ?_) | refine KO.bind ?_ (fun _ _ => ?_) | exact KO.no | refine KO.so ?_ | refine KO.via (hL ..) ?_ | assumption | exact KK.rf | refine KK.i (nTd rfl) ?_ | refine KK.j (nTd rfl) ?_ | refine KK.a (nTd rfl) ?_ | refine KK.b (nTd rfl) ?_ | refine KK.c (nTd rfl) ?_)
set_option maxRecDepth 20000 in
theorem kt_l_Expressions_isSame_35_39 : ∀ (n : Nat) (x0 : Nat) (x1 : Int) (x2 : Int) (x3 : Int) (g : G2), KO cT g (l_Expressions_isSame_35_39 n x0 x1 x2 x3 g) := by
  intro n
  induction n with
  | zero => intros; exact KO.no
  | succ n ih =>
    intro x0 x1 x2 x3 g
    unfold l_Expressions_isSame_35_39
    try dsimp only
    first | (split <;> (first  | exact kt_b_Expressions_isSame_35_39_0 _ _ _ _ _ ih)) | (first  | exact kt_b_Expressions_isSame_35_39_0 _ _ _ _ _ ih)
set_option maxRecDepth 20000 in
theorem kt_f_Expressions_isSame_35_39 (a1 : Int) (a3 : Int) (g : G2) : KO cT g (f_Expressions_isSame_35_39 a1 a3 g) := by
  unfold f_Expressions_isSame_35_39
  repeat' (with_reducible first | refine KO.ite ?_ ?_ | refine KO.bd ?_ (fun _ _ _ => ?_) | refine KO.bind ?_ (fun _ _ => ?_) | exact KO.no | refine KO.so ?_ | refine KO.via (kt_l_Expressions_isSame_35_39 ..) ?_ | refine KV.via (kt_l_Expressions_isSame_35_39 ..) ?_ | assumption | exact KK.rf | refine KK.i (nTd rfl) ?_ | refine KK.j (nTd rfl) ?_ | refine KK.a (nTd rfl) ?_ | refine KK.b (nTd rfl) ?_ | refine KK.c (nTd rfl) ?_)
set_option maxRecDepth 20000 in
theorem kt_b_Proof_bind_34_0 (L : Nat → Int → Int → Int → G2 → Option (Int × G2)) (i1 : Int) (i4 : Int) (i5 : Int) (g : G2) (hL : ∀ x0 x1 x2 x3 g, KO cT g (L x0 x1 x2 x3 g)) : KO cT g (b_Proof_bind_34_0 L i1 i4 i5 g) := by
  unfold b_Proof_bind_34_0
  repeat' (with_reducible first | refine KO.ite ?_ ?_ | refine KO.bd ?_ (fun _ _ _ => ?_) | refine KO.bind ?_ (fun _ _ => ?_) | exact KO.no | refine KO.so ?_ | refine KO.via (kt_f_Expressions_isSame_35_39 ..) ?_ | refine KV.via (kt_f_Expressions_isSame_35_39 ..) ?_ | refine KO.via (kt_f_Expressions_symbolAt_11 ..) ?_ | refine KV.via (kt_f_Expressions_symbolAt_11 ..) ?_ | refine KO.via (kt_f_Expressions_symbolAt_35 ..) ?_ | refine KV.via (kt_f_Expressions_symbolAt_35 ..) ?_ | refine KO.via (kt_f_Proof_replaceIn_34 ..) ?_ | refine KV.via (kt_f_Proof_replaceIn_34 ..) ?_ | refine KO.via (kt_f_Statements_isMandatory_8 ..) ?_ | refine KV.via (kt_f_Statements_isMandatory_8 ..) ?_ | refine KO.via (hL ..) ?_ | assumption | exact KK.rf | refine KK.i (nTd rfl) ?_ | refine KK.j (nTd rfl) ?_ | refine KK.a (nTd rfl) ?_ | refine KK.b (nTd rfl) ?_ | refine KK.c (nTd rfl) ?_)
set_option maxRecDepth 20000 in
theorem kt_l_Proof_bind_34 : ∀ (n : Nat) (x0 : Nat) (x1 : Int) (x2 : Int) (x3 : Int) (g : G2), KO cT g (l_Proof_bind_34 n x0 x1 x2 x3 g) := by
  intro n
  induction n with
  | zero => intros; exact KO.no
  | succ n ih =>
    intro x0 x1 x2 x3 g
    unfold l_Proof_bind_34
    try dsimp only
    first | (split <;> (first  | exact kt_b_Proof_bind_34_0 _ _ _ _ _ ih)) | (first  | exact kt_b_Proof_bind_34_0 _ _ _ _ _ ih)
set_option maxRecDepth 20000 in
theorem kt_f_Proof_bind_34 (a1 : Int) (a2 : Int) (g : G2) : KO cT g (f_Proof_bind_34 a1 a2 g) := by
  unfold f_Proof_bind_34
  repeat' (with_reducible first | refine KO.ite ?_ ?_ | refine KO.bd ?_ (fun _ _ _ => ?_) | refine KO.bind ?_ (fun _ _ => ?_) | exact KO.no | refine KO.so ?_ | refine KO.via (kt_l_Proof_bind_34 ..) ?_ | refine KV.via (kt_l_Proof_bind_34 ..) ?_ | assumption | exact KK.rf | refine KK.i (nTd rfl) ?_ | refine KK.j (nTd rfl) ?_ | refine KK.a (nTd rfl) ?_ | refine KK.b (nTd rfl) ?_ | refine KK.c (nTd rfl) ?_)
set_option maxRecDepth 20000 in
theorem kt_f_Assertions_firstOfPair_17 (a1 : Int) (a2 : Int) (g : G2) : KO cT g (f_Assertions_firstOfPair_17 a1 a2 g) := by
  unfold f_Assertions_firstOfPair_17
  repeat' (with_reducible first | refine KO.ite ?_ ?_ | refine KO.bd ?_ (fun _ _ _ => ?_) | refine KO.bind ?_ (fun _ _ => ?_) | exact KO.no | refine KO.so ?_ | refine KO.via (kt_f_Context_firstOf ..) ?_ | refine KV.via (kt_f_Context_firstOf ..) ?_ | assumption | exact KK.rf | refine KK.i (nTd rfl) ?_ | refine KK.j (nTd rfl) ?_ | refine KK.a (nTd rfl) ?_ | refine KK.b (nTd rfl) ?_ | refine KK.c (nTd rfl) ?_)
set_option maxRecDepth 20000 in
theorem kt_f_Assertions_secondOfPair_17 (a1 : Int) (a2 : Int) (g : G2) : KO cT g (f_Assertions_secondOfPair_17 a1 a2 g) := by
  unfold f_Assertions_secondOfPair_17
  repeat' (with_reducible first | refine KO.ite ?_ ?_ | refine KO.bd ?_ (fun _ _ _ => ?_) | refine KO.bind ?_ (fun _ _ => ?_) | exact KO.no | refine KO.so ?_ | refine KO.via (kt_f_Context_secondOf ..) ?_ | refine KV.via (kt_f_Context_secondOf ..) ?_ | assumption | exact KK.rf | refine KK.i (nTd rfl) ?_ | refine KK.j (nTd rfl) ?_ | refine KK.a (nTd rfl) ?_ | refine KK.b (nTd rfl) ?_ | refine KK.c (nTd rfl) ?_)
set_option maxRecDepth 20000 in
theorem kt_b_Context_areApart_27_0 (L : Nat → Int64 → Int64 → Int → G2 → Option (Int × G2)) (l1 : Int64) (l3 : Int64) (i5 : Int) (g : G2) (hL : ∀ x0 x1 x2 x3 g, KO cT g (L x0 x1 x2 x3 g)) : KO cT g (b_Context_areApart_27_0 L l1 l3 i5 g) := by
  unfold b_Context_areApart_27_0
  repeat' (with_reducible first | refine KO.ite ?_ ?_ | refine KO.bd ?_ (fun _ _ _ => ?_) | refine KO.bind ?_ (fun _ _ => ?_) | exact KO.no | refine KO.so ?_ | refine KO.via (hL ..) ?_ | assumption | exact KK.rf | refine KK.i (nTd rfl) ?_ | refine KK.j (nTd rfl) ?_ | refine KK.a (nTd rfl) ?_ | refine KK.b (nTd rfl) ?_ | refine KK.c (nTd rfl) ?_)
set_option maxRecDepth 20000 in
theorem kt_l_Context_areApart_27 : ∀ (n : Nat) (x0 : Nat) (x1 : Int64) (x2 : Int64) (x3 : Int) (g : G2), KO cT g (l_Context_areApart_27 n x0 x1 x2 x3 g) := by
  intro n
  induction n with
  | zero => intros; exact KO.no
  | succ n ih =>
    intro x0 x1 x2 x3 g
    unfold l_Context_areApart_27
    try dsimp only
    first | (split <;> (first  | exact kt_b_Context_areApart_27_0 _ _ _ _ _ ih)) | (first  | exact kt_b_Context_areApart_27_0 _ _ _ _ _ ih)
set_option maxRecDepth 20000 in
theorem kt_f_Context_areApart_27 (a1 : Int64) (a3 : Int64) (g : G2) : KO cT g (f_Context_areApart_27 a1 a3 g) := by
  unfold f_Context_areApart_27
  repeat' (with_reducible first | refine KO.ite ?_ ?_ | refine KO.bd ?_ (fun _ _ _ => ?_) | refine KO.bind ?_ (fun _ _ => ?_) | exact KO.no | refine KO.so ?_ | refine KO.via (kt_l_Context_areApart_27 ..) ?_ | refine KV.via (kt_l_Context_areApart_27 ..) ?_ | assumption | exact KK.rf | refine KK.i (nTd rfl) ?_ | refine KK.j (nTd rfl) ?_ | refine KK.a (nTd rfl) ?_ | refine KK.b (nTd rfl) ?_ | refine KK.c (nTd rfl) ?_)
set_option maxRecDepth 20000 in
theorem kt_b_Proof_keepsApart_34_0 (L : Nat → Int → Int → G2 → Option (Int × G2)) (i1 : Int) (i2 : Int) (g : G2) (hL : ∀ x0 x1 x2 g, KO cT g (L x0 x1 x2 g)) : KO cT g (b_Proof_keepsApart_34_0 L i1 i2 g) := by
  unfold b_Proof_keepsApart_34_0
  repeat' (with_reducible first | refine KO.ite ?_ ?_ | refine KO.bd ?_ (fun _ _ _ => ?_) | refine KO.bind ?_ (fun _ _ => ?_) | exact KO.no | refine KO.so ?_ | refine KO.via (kt_f_Assertions_firstOfPair_17 ..) ?_ | refine KV.via (kt_f_Assertions_firstOfPair_17 ..) ?_ | refine KO.via (kt_f_Assertions_secondOfPair_17 ..) ?_ | refine KV.via (kt_f_Assertions_secondOfPair_17 ..) ?_ | refine KO.via (kt_f_Context_areApart_27 ..) ?_ | refine KV.via (kt_f_Context_areApart_27 ..) ?_ | refine KO.via (hL ..) ?_ | assumption | exact KK.rf | refine KK.i (nTd rfl) ?_ | refine KK.j (nTd rfl) ?_ | refine KK.a (nTd rfl) ?_ | refine KK.b (nTd rfl) ?_ | refine KK.c (nTd rfl) ?_)
set_option maxRecDepth 20000 in
theorem kt_l_Proof_keepsApart_34 : ∀ (n : Nat) (x0 : Nat) (x1 : Int) (x2 : Int) (g : G2), KO cT g (l_Proof_keepsApart_34 n x0 x1 x2 g) := by
  intro n
  induction n with
  | zero => intros; exact KO.no
  | succ n ih =>
    intro x0 x1 x2 g
    unfold l_Proof_keepsApart_34
    try dsimp only
    first | (split <;> (first  | exact kt_b_Proof_keepsApart_34_0 _ _ _ _ ih)) | (first  | exact kt_b_Proof_keepsApart_34_0 _ _ _ _ ih)
set_option maxRecDepth 20000 in
theorem kt_f_Proof_keepsApart_34 (a1 : Int) (g : G2) : KO cT g (f_Proof_keepsApart_34 a1 g) := by
  unfold f_Proof_keepsApart_34
  repeat' (with_reducible first | refine KO.ite ?_ ?_ | refine KO.bd ?_ (fun _ _ _ => ?_) | refine KO.bind ?_ (fun _ _ => ?_) | exact KO.no | refine KO.so ?_ | refine KO.via (kt_l_Proof_keepsApart_34 ..) ?_ | refine KV.via (kt_l_Proof_keepsApart_34 ..) ?_ | assumption | exact KK.rf | refine KK.i (nTd rfl) ?_ | refine KK.j (nTd rfl) ?_ | refine KK.a (nTd rfl) ?_ | refine KK.b (nTd rfl) ?_ | refine KK.c (nTd rfl) ?_)
set_option maxRecDepth 20000 in
theorem kt_f_Assertions_noteUse_17 (a1 : Int) (g : G2) : KV cT g (f_Assertions_noteUse_17 a1 g) := by
  unfold f_Assertions_noteUse_17
  repeat' (with_reducible first | refine KV.ite ?_ ?_ | refine KV.bd ?_ (fun _ _ _ => ?_) | refine KV.bind ?_ (fun _ _ => ?_) | exact KV.no | refine KV.so ?_ | assumption | exact KK.rf | refine KK.i (nTd rfl) ?_ | refine KK.j (nTd rfl) ?_ | refine KK.a (nTd rfl) ?_ | refine KK.b (nTd rfl) ?_ | refine KK.c (nTd rfl) ?_)
set_option maxRecDepth 20000 in
theorem kt_f_Expressions_isFull_35 (g : G2) : KO cT g (f_Expressions_isFull_35 g) := by
  unfold f_Expressions_isFull_35
  repeat' (with_reducible first | refine KO.ite ?_ ?_ | refine KO.bd ?_ (fun _ _ _ => ?_) | refine KO.bind ?_ (fun _ _ => ?_) | exact KO.no | refine KO.so ?_ | assumption | exact KK.rf | refine KK.i (nTd rfl) ?_ | refine KK.j (nTd rfl) ?_ | refine KK.a (nTd rfl) ?_ | refine KK.b (nTd rfl) ?_ | refine KK.c (nTd rfl) ?_)
set_option maxRecDepth 20000 in
theorem kt_f_Expressions_addCopy_35_39 (a2 : Int) (g : G2) : KV cT g (f_Expressions_addCopy_35_39 a2 g) := by
  unfold f_Expressions_addCopy_35_39
  repeat' (with_reducible first | refine KV.ite ?_ ?_ | refine KV.bd ?_ (fun _ _ _ => ?_) | refine KV.bind ?_ (fun _ _ => ?_) | exact KV.no | refine KV.so ?_ | assumption | exact KK.rf | refine KK.i (nTd rfl) ?_ | refine KK.j (nTd rfl) ?_ | refine KK.a (nTd rfl) ?_ | refine KK.b (nTd rfl) ?_ | refine KK.c (nTd rfl) ?_)
set_option maxRecDepth 20000 in
theorem kt_f_Assertions_noteStep_17 (a1 : Int) (g : G2) : KV cT g (f_Assertions_noteStep_17 a1 g) := by
  unfold f_Assertions_noteStep_17
  repeat' (with_reducible first | refine KV.ite ?_ ?_ | refine KV.bd ?_ (fun _ _ _ => ?_) | refine KV.bind ?_ (fun _ _ => ?_) | exact KV.no | refine KV.so ?_ | assumption | exact KK.rf | refine KK.i (nTd rfl) ?_ | refine KK.j (nTd rfl) ?_ | refine KK.a (nTd rfl) ?_ | refine KK.b (nTd rfl) ?_ | refine KK.c (nTd rfl) ?_)
set_option maxRecDepth 20000 in
theorem kt_f_Proof_put_34_39 (a2 : Int) (g : G2) : KO cT g (f_Proof_put_34_39 a2 g) := by
  unfold f_Proof_put_34_39
  repeat' (with_reducible first | refine KO.ite ?_ ?_ | refine KO.bd ?_ (fun _ _ _ => ?_) | refine KO.bind ?_ (fun _ _ => ?_) | exact KO.no | refine KO.so ?_ | refine KO.via (kt_f_Assertions_noteStep_17 ..) ?_ | refine KV.via (kt_f_Assertions_noteStep_17 ..) ?_ | refine KO.via (kt_f_Expressions_addCopy_35_39 ..) ?_ | refine KV.via (kt_f_Expressions_addCopy_35_39 ..) ?_ | refine KO.via (kt_f_Expressions_isFull_35 ..) ?_ | refine KV.via (kt_f_Expressions_isFull_35 ..) ?_ | assumption | exact KK.rf | refine KK.i (nTd rfl) ?_ | refine KK.j (nTd rfl) ?_ | refine KK.a (nTd rfl) ?_ | refine KK.b (nTd rfl) ?_ | refine KK.c (nTd rfl) ?_)
set_option maxRecDepth 20000 in
theorem kt_f_Expressions_addCopy_35_11 (a2 : Int) (g : G2) : KV cT g (f_Expressions_addCopy_35_11 a2 g) := by
  unfold f_Expressions_addCopy_35_11
  repeat' (with_reducible first | refine KV.ite ?_ ?_ | refine KV.bd ?_ (fun _ _ _ => ?_) | refine KV.bind ?_ (fun _ _ => ?_) | exact KV.no | refine KV.so ?_ | assumption | exact KK.rf | refine KK.i (nTd rfl) ?_ | refine KK.j (nTd rfl) ?_ | refine KK.a (nTd rfl) ?_ | refine KK.b (nTd rfl) ?_ | refine KK.c (nTd rfl) ?_)
set_option maxRecDepth 20000 in
theorem kt_f_Proof_put_34_11 (a2 : Int) (g : G2) : KO cT g (f_Proof_put_34_11 a2 g) := by
  unfold f_Proof_put_34_11
  repeat' (with_reducible first | refine KO.ite ?_ ?_ | refine KO.bd ?_ (fun _ _ _ => ?_) | refine KO.bind ?_ (fun _ _ => ?_) | exact KO.no | refine KO.so ?_ | refine KO.via (kt_f_Assertions_noteStep_17 ..) ?_ | refine KV.via (kt_f_Assertions_noteStep_17 ..) ?_ | refine KO.via (kt_f_Expressions_addCopy_35_11 ..) ?_ | refine KV.via (kt_f_Expressions_addCopy_35_11 ..) ?_ | refine KO.via (kt_f_Expressions_isFull_35 ..) ?_ | refine KV.via (kt_f_Expressions_isFull_35 ..) ?_ | assumption | exact KK.rf | refine KK.i (nTd rfl) ?_ | refine KK.j (nTd rfl) ?_ | refine KK.a (nTd rfl) ?_ | refine KK.b (nTd rfl) ?_ | refine KK.c (nTd rfl) ?_)
set_option maxRecDepth 20000 in
theorem kt_f_Proof_stepWith_34 (a1 : Int) (g : G2) : KO cT g (f_Proof_stepWith_34 a1 g) := by
  unfold f_Proof_stepWith_34
  repeat' (with_reducible first | refine KO.ite ?_ ?_ | refine KO.bd ?_ (fun _ _ _ => ?_) | refine KO.bind ?_ (fun _ _ => ?_) | exact KO.no | refine KO.so ?_ | refine KO.via (kt_f_Assertions_noteUse_17 ..) ?_ | refine KV.via (kt_f_Assertions_noteUse_17 ..) ?_ | refine KO.via (kt_f_J_bitCount ..) ?_ | refine KV.via (kt_f_J_bitCount ..) ?_ | refine KO.via (kt_f_Proof_bind_34 ..) ?_ | refine KV.via (kt_f_Proof_bind_34 ..) ?_ | refine KO.via (kt_f_Proof_keepsApart_34 ..) ?_ | refine KV.via (kt_f_Proof_keepsApart_34 ..) ?_ | refine KO.via (kt_f_Proof_put_34_11 ..) ?_ | refine KV.via (kt_f_Proof_put_34_11 ..) ?_ | refine KO.via (kt_f_Proof_put_34_39 ..) ?_ | refine KV.via (kt_f_Proof_put_34_39 ..) ?_ | refine KO.via (kt_f_Proof_replaceIn_34 ..) ?_ | refine KV.via (kt_f_Proof_replaceIn_34 ..) ?_ | refine KO.via (kt_f_Statements_isHypothesis_8 ..) ?_ | refine KV.via (kt_f_Statements_isHypothesis_8 ..) ?_ | assumption | exact KK.rf | refine KK.i (nTd rfl) ?_ | refine KK.j (nTd rfl) ?_ | refine KK.a (nTd rfl) ?_ | refine KK.b (nTd rfl) ?_ | refine KK.c (nTd rfl) ?_)
set_option maxRecDepth 20000 in
theorem kt_f_Reader_takeStep_26 (a1 : Int64) (g : G2) : KO cT g (f_Reader_takeStep_26 a1 g) := by
  unfold f_Reader_takeStep_26
  repeat' (with_reducible first | refine KO.ite ?_ ?_ | refine KO.bd ?_ (fun _ _ _ => ?_) | refine KO.bind ?_ (fun _ _ => ?_) | exact KO.no | refine KO.so ?_ | refine KO.via (kt_f_Proof_leaveGap_34 ..) ?_ | refine KV.via (kt_f_Proof_leaveGap_34 ..) ?_ | refine KO.via (kt_f_Proof_stepWith_34 ..) ?_ | refine KV.via (kt_f_Proof_stepWith_34 ..) ?_ | refine KO.via (kt_f_Reader_findUsable_26 ..) ?_ | refine KV.via (kt_f_Reader_findUsable_26 ..) ?_ | assumption | exact KK.rf | refine KK.i (nTd rfl) ?_ | refine KK.j (nTd rfl) ?_ | refine KK.a (nTd rfl) ?_ | refine KK.b (nTd rfl) ?_ | refine KK.c (nTd rfl) ?_)
set_option maxRecDepth 20000 in
theorem kt_f_Reader_beginSteps_26 (a1 : Int64) (g : G2) : KO cT g (f_Reader_beginSteps_26 a1 g) := by
  unfold f_Reader_beginSteps_26
  repeat' (with_reducible first | refine KO.ite ?_ ?_ | refine KO.bd ?_ (fun _ _ _ => ?_) | refine KO.bind ?_ (fun _ _ => ?_) | exact KO.no | refine KO.so ?_ | refine KO.via (kt_f_Letters_begin_44 ..) ?_ | refine KV.via (kt_f_Letters_begin_44 ..) ?_ | refine KO.via (kt_f_Reader_takeStep_26 ..) ?_ | refine KV.via (kt_f_Reader_takeStep_26 ..) ?_ | assumption | exact KK.rf | refine KK.i (nTd rfl) ?_ | refine KK.j (nTd rfl) ?_ | refine KK.a (nTd rfl) ?_ | refine KK.b (nTd rfl) ?_ | refine KK.c (nTd rfl) ?_)
set_option maxRecDepth 20000 in
theorem kt_f_Letters_addListed_44 (a1 : Int) (g : G2) : KO cT g (f_Letters_addListed_44 a1 g) := by
  unfold f_Letters_addListed_44
  repeat' (with_reducible first | refine KO.ite ?_ ?_ | refine KO.bd ?_ (fun _ _ _ => ?_) | refine KO.bind ?_ (fun _ _ => ?_) | exact KO.no | refine KO.so ?_ | assumption | exact KK.rf | refine KK.i (nTd rfl) ?_ | refine KK.j (nTd rfl) ?_ | refine KK.a (nTd rfl) ?_ | refine KK.b (nTd rfl) ?_ | refine KK.c (nTd rfl) ?_)
set_option maxRecDepth 20000 in
theorem kt_f_Reader_takeListed_26 (a1 : Int64) (g : G2) : KO cT g (f_Reader_takeListed_26 a1 g) := by
  unfold f_Reader_takeListed_26
  repeat' (with_reducible first | refine KO.ite ?_ ?_ | refine KO.bd ?_ (fun _ _ _ => ?_) | refine KO.bind ?_ (fun _ _ => ?_) | exact KO.no | refine KO.so ?_ | refine KO.via (kt_f_Letters_addListed_44 ..) ?_ | refine KV.via (kt_f_Letters_addListed_44 ..) ?_ | refine KO.via (kt_f_Reader_findUsable_26 ..) ?_ | refine KV.via (kt_f_Reader_findUsable_26 ..) ?_ | refine KO.via (kt_f_Statements_isMandatory_8 ..) ?_ | refine KV.via (kt_f_Statements_isMandatory_8 ..) ?_ | assumption | exact KK.rf | refine KK.i (nTd rfl) ?_ | refine KK.j (nTd rfl) ?_ | refine KK.a (nTd rfl) ?_ | refine KK.b (nTd rfl) ?_ | refine KK.c (nTd rfl) ?_)
set_option maxRecDepth 20000 in
theorem kt_f_Letters_addGap_44 (g : G2) : KO cT g (f_Letters_addGap_44 g) := by
  unfold f_Letters_addGap_44
  repeat' (with_reducible first | refine KO.ite ?_ ?_ | refine KO.bd ?_ (fun _ _ _ => ?_) | refine KO.bind ?_ (fun _ _ => ?_) | exact KO.no | refine KO.so ?_ | refine KO.via (kt_f_Proof_leaveGap_34 ..) ?_ | refine KV.via (kt_f_Proof_leaveGap_34 ..) ?_ | assumption | exact KK.rf | refine KK.i (nTd rfl) ?_ | refine KK.j (nTd rfl) ?_ | refine KK.a (nTd rfl) ?_ | refine KK.b (nTd rfl) ?_ | refine KK.c (nTd rfl) ?_)
set_option maxRecDepth 20000 in
theorem kt_f_Expressions_addCopy_46_35 (a2 : Int) (g : G2) : KV cT g (f_Expressions_addCopy_46_35 a2 g) := by
  unfold f_Expressions_addCopy_46_35
  repeat' (with_reducible first | refine KV.ite ?_ ?_ | refine KV.bd ?_ (fun _ _ _ => ?_) | refine KV.bind ?_ (fun _ _ => ?_) | exact KV.no | refine KV.so ?_ | assumption | exact KK.rf | refine KK.i (nTd rfl) ?_ | refine KK.j (nTd rfl) ?_ | refine KK.a (nTd rfl) ?_ | refine KK.b (nTd rfl) ?_ | refine KK.c (nTd rfl) ?_)
set_option maxRecDepth 20000 in
theorem kt_f_Letters_addTag_44 (g : G2) : KO cT g (f_Letters_addTag_44 g) := by
  unfold f_Letters_addTag_44
  repeat' (with_reducible first | refine KO.ite ?_ ?_ | refine KO.bd ?_ (fun _ _ _ => ?_) | refine KO.bind ?_ (fun _ _ => ?_) | exact KO.no | refine KO.so ?_ | refine KO.via (kt_f_Expressions_addCopy_46_35 ..) ?_ | refine KV.via (kt_f_Expressions_addCopy_46_35 ..) ?_ | assumption | exact KK.rf | refine KK.i (nTd rfl) ?_ | refine KK.j (nTd rfl) ?_ | refine KK.a (nTd rfl) ?_ | refine KK.b (nTd rfl) ?_ | refine KK.c (nTd rfl) ?_)
set_option maxRecDepth 20000 in
theorem kt_f_Letters_takeLetter_44 (a1 : Int) (g : G2) : KO cT g (f_Letters_takeLetter_44 a1 g) := by
  unfold f_Letters_takeLetter_44
  repeat' (with_reducible first | refine KO.ite ?_ ?_ | refine KO.bd ?_ (fun _ _ _ => ?_) | refine KO.bind ?_ (fun _ _ => ?_) | exact KO.no | refine KO.so ?_ | refine KO.via (kt_f_Letters_addGap_44 ..) ?_ | refine KV.via (kt_f_Letters_addGap_44 ..) ?_ | refine KO.via (kt_f_Letters_addTag_44 ..) ?_ | refine KV.via (kt_f_Letters_addTag_44 ..) ?_ | assumption | exact KK.rf | refine KK.i (nTd rfl) ?_ | refine KK.j (nTd rfl) ?_ | refine KK.a (nTd rfl) ?_ | refine KK.b (nTd rfl) ?_ | refine KK.c (nTd rfl) ?_)
set_option maxRecDepth 20000 in
theorem kt_f_Expressions_addCopy_35_46 (a2 : Int) (g : G2) : KV cT g (f_Expressions_addCopy_35_46 a2 g) := by
  unfold f_Expressions_addCopy_35_46
  repeat' (with_reducible first | refine KV.ite ?_ ?_ | refine KV.bd ?_ (fun _ _ _ => ?_) | refine KV.bind ?_ (fun _ _ => ?_) | exact KV.no | refine KV.so ?_ | assumption | exact KK.rf | refine KK.i (nTd rfl) ?_ | refine KK.j (nTd rfl) ?_ | refine KK.a (nTd rfl) ?_ | refine KK.b (nTd rfl) ?_ | refine KK.c (nTd rfl) ?_)
set_option maxRecDepth 20000 in
theorem kt_f_Proof_put_34_46 (a2 : Int) (g : G2) : KO cT g (f_Proof_put_34_46 a2 g) := by
  unfold f_Proof_put_34_46
  repeat' (with_reducible first | refine KO.ite ?_ ?_ | refine KO.bd ?_ (fun _ _ _ => ?_) | refine KO.bind ?_ (fun _ _ => ?_) | exact KO.no | refine KO.so ?_ | refine KO.via (kt_f_Assertions_noteStep_17 ..) ?_ | refine KV.via (kt_f_Assertions_noteStep_17 ..) ?_ | refine KO.via (kt_f_Expressions_addCopy_35_46 ..) ?_ | refine KV.via (kt_f_Expressions_addCopy_35_46 ..) ?_ | refine KO.via (kt_f_Expressions_isFull_35 ..) ?_ | refine KV.via (kt_f_Expressions_isFull_35 ..) ?_ | assumption | exact KK.rf | refine KK.i (nTd rfl) ?_ | refine KK.j (nTd rfl) ?_ | refine KK.a (nTd rfl) ?_ | refine KK.b (nTd rfl) ?_ | refine KK.c (nTd rfl) ?_)
set_option maxRecDepth 20000 in
theorem kt_f_Letters_stepWithNumber_44 (g : G2) : KO cT g (f_Letters_stepWithNumber_44 g) := by
  unfold f_Letters_stepWithNumber_44
  repeat' (with_reducible first | refine KO.ite ?_ ?_ | refine KO.bd ?_ (fun _ _ _ => ?_) | refine KO.bind ?_ (fun _ _ => ?_) | exact KO.no | refine KO.so ?_ | refine KO.via (kt_f_Proof_put_34_46 ..) ?_ | refine KV.via (kt_f_Proof_put_34_46 ..) ?_ | refine KO.via (kt_f_Proof_stepWith_34 ..) ?_ | refine KV.via (kt_f_Proof_stepWith_34 ..) ?_ | assumption | exact KK.rf | refine KK.i (nTd rfl) ?_ | refine KK.j (nTd rfl) ?_ | refine KK.a (nTd rfl) ?_ | refine KK.b (nTd rfl) ?_ | refine KK.c (nTd rfl) ?_)
set_option maxRecDepth 20000 in
theorem kt_b_Letters_takeLetters_44_2_0 (L : Nat → Int → Int → G2 → Option (Int × G2)) (i2 : Int) (i3 : Int) (g : G2) (hL : ∀ x0 x1 x2 g, KO cT g (L x0 x1 x2 g)) : KO cT g (b_Letters_takeLetters_44_2_0 L i2 i3 g) := by
  unfold b_Letters_takeLetters_44_2_0
  repeat' (with_reducible first | refine KO.ite ?_ ?_ | refine KO.bd ?_ (fun _ _ _ => ?_) | refine KO.bind ?_ (fun _ _ => ?_) | exact KO.no | refine KO.so ?_ | refine KO.via (hL ..) ?_ | assumption | exact KK.rf | refine KK.i (nTd rfl) ?_ | refine KK.j (nTd rfl) ?_ | refine KK.a (nTd rfl) ?_ | refine KK.b (nTd rfl) ?_ | refine KK.c (nTd rfl) ?_)
set_option maxRecDepth 20000 in
theorem kt_b_Letters_takeLetters_44_2_1 (L : Nat → Int → Int → G2 → Option (Int × G2)) (i2 : Int) (i3 : Int) (g : G2) (hL : ∀ x0 x1 x2 g, KO cT g (L x0 x1 x2 g)) : KO cT g (b_Letters_takeLetters_44_2_1 L i2 i3 g) := by
  unfold b_Letters_takeLetters_44_2_1
  repeat' (with_reducible first | refine KO.ite ?_ ?_ | refine KO.bd ?_ (fun _ _ _ => ?_) | refine KO.bind ?_ (fun _ _ => ?_) | exact KO.no | refine KO.so ?_ | refine KO.via (hL ..) ?_ | assumption | exact KK.rf | refine KK.i (nTd rfl) ?_ | refine KK.j (nTd rfl) ?_ | refine KK.a (nTd rfl) ?_ | refine KK.b (nTd rfl) ?_ | refine KK.c (nTd rfl) ?_)
set_option maxRecDepth 20000 in
theorem kt_b_Letters_takeLetters_44_2_2 (L : Nat → Int → Int → G2 → Option (Int × G2)) (i2 : Int) (i3 : Int) (g : G2) (hL : ∀ x0 x1 x2 g, KO cT g (L x0 x1 x2 g)) : KO cT g (b_Letters_takeLetters_44_2_2 L i2 i3 g) := by
  unfold b_Letters_takeLetters_44_2_2
  repeat' (with_reducible first | refine KO.ite ?_ ?_ | refine KO.bd ?_ (fun _ _ _ => ?_) | refine KO.bind ?_ (fun _ _ => ?_) | exact KO.no | refine KO.so ?_ | refine KO.via (hL ..) ?_ | assumption | exact KK.rf | refine KK.i (nTd rfl) ?_ | refine KK.j (nTd rfl) ?_ | refine KK.a (nTd rfl) ?_ | refine KK.b (nTd rfl) ?_ | refine KK.c (nTd rfl) ?_)
set_option maxRecDepth 20000 in
theorem kt_b_Letters_takeLetters_44_2_3 (L : Nat → Int → Int → G2 → Option (Int × G2)) (i2 : Int) (i3 : Int) (g : G2) (hL : ∀ x0 x1 x2 g, KO cT g (L x0 x1 x2 g)) : KO cT g (b_Letters_takeLetters_44_2_3 L i2 i3 g) := by
  unfold b_Letters_takeLetters_44_2_3
  repeat' (with_reducible first | refine KO.ite ?_ ?_ | refine KO.bd ?_ (fun _ _ _ => ?_) | refine KO.bind ?_ (fun _ _ => ?_) | exact KO.no | refine KO.so ?_ | refine KO.via (kt_f_Letters_stepWithNumber_44 ..) ?_ | refine KV.via (kt_f_Letters_stepWithNumber_44 ..) ?_ | refine KO.via (kt_f_Letters_takeLetter_44 ..) ?_ | refine KV.via (kt_f_Letters_takeLetter_44 ..) ?_ | refine KO.via (hL ..) ?_ | assumption | exact KK.rf | refine KK.i (nTd rfl) ?_ | refine KK.j (nTd rfl) ?_ | refine KK.a (nTd rfl) ?_ | refine KK.b (nTd rfl) ?_ | refine KK.c (nTd rfl) ?_)
set_option maxRecDepth 20000 in
theorem kt_b_Letters_takeLetters_44_2_4 (L : Nat → Int → Int → G2 → Option (Int × G2)) (i2 : Int) (i3 : Int) (g : G2) (hL : ∀ x0 x1 x2 g, KO cT g (L x0 x1 x2 g)) : KO cT g (b_Letters_takeLetters_44_2_4 L i2 i3 g) := by
  unfold b_Letters_takeLetters_44_2_4
  repeat' (with_reducible first | refine KO.ite ?_ ?_ | refine KO.bd ?_ (fun _ _ _ => ?_) | refine KO.bind ?_ (fun _ _ => ?_) | exact KO.no | refine KO.so ?_ | refine KO.via (hL ..) ?_ | assumption | exact KK.rf | refine KK.i (nTd rfl) ?_ | refine KK.j (nTd rfl) ?_ | refine KK.a (nTd rfl) ?_ | refine KK.b (nTd rfl) ?_ | refine KK.c (nTd rfl) ?_)
set_option maxRecDepth 20000 in
theorem kt_b_Letters_takeLetters_44_2_5 (L : Nat → Int → Int → G2 → Option (Int × G2)) (i2 : Int) (i3 : Int) (g : G2) (hL : ∀ x0 x1 x2 g, KO cT g (L x0 x1 x2 g)) : KO cT g (b_Letters_takeLetters_44_2_5 L i2 i3 g) := by
  unfold b_Letters_takeLetters_44_2_5
  repeat' (with_reducible first | refine KO.ite ?_ ?_ | refine KO.bd ?_ (fun _ _ _ => ?_) | refine KO.bind ?_ (fun _ _ => ?_) | exact KO.no | refine KO.so ?_ | refine KO.via (hL ..) ?_ | assumption | exact KK.rf | refine KK.i (nTd rfl) ?_ | refine KK.j (nTd rfl) ?_ | refine KK.a (nTd rfl) ?_ | refine KK.b (nTd rfl) ?_ | refine KK.c (nTd rfl) ?_)
set_option maxRecDepth 20000 in
theorem kt_l_Letters_takeLetters_44_2 : ∀ (n : Nat) (x0 : Nat) (x1 : Int) (x2 : Int) (g : G2), KO cT g (l_Letters_takeLetters_44_2 n x0 x1 x2 g) := by
  intro n
  induction n with
  | zero => intros; exact KO.no
  | succ n ih =>
    intro x0 x1 x2 g
    unfold l_Letters_takeLetters_44_2
    try dsimp only
    first | (split <;> (first  | exact kt_b_Letters_takeLetters_44_2_0 _ _ _ _ ih | exact kt_b_Letters_takeLetters_44_2_1 _ _ _ _ ih | exact kt_b_Letters_takeLetters_44_2_2 _ _ _ _ ih | exact kt_b_Letters_takeLetters_44_2_3 _ _ _ _ ih | exact kt_b_Letters_takeLetters_44_2_4 _ _ _ _ ih | exact kt_b_Letters_takeLetters_44_2_5 _ _ _ _ ih)) | (first  | exact kt_b_Letters_takeLetters_44_2_0 _ _ _ _ ih | exact kt_b_Letters_takeLetters_44_2_1 _ _ _ _ ih | exact kt_b_Letters_takeLetters_44_2_2 _ _ _ _ ih | exact kt_b_Letters_takeLetters_44_2_3 _ _ _ _ ih | exact kt_b_Letters_takeLetters_44_2_4 _ _ _ _ ih | exact kt_b_Letters_takeLetters_44_2_5 _ _ _ _ ih)
set_option maxRecDepth 20000 in
theorem kt_f_Letters_takeLetters_44_2 (g : G2) : KO cT g (f_Letters_takeLetters_44_2 g) := by
  unfold f_Letters_takeLetters_44_2
  repeat' (with_reducible first | refine KO.ite ?_ ?_ | refine KO.bd ?_ (fun _ _ _ => ?_) | refine KO.bind ?_ (fun _ _ => ?_) | exact KO.no | refine KO.so ?_ | refine KO.via (kt_l_Letters_takeLetters_44_2 ..) ?_ | refine KV.via (kt_l_Letters_takeLetters_44_2 ..) ?_ | assumption | exact KK.rf | refine KK.i (nTd rfl) ?_ | refine KK.j (nTd rfl) ?_ | refine KK.a (nTd rfl) ?_ | refine KK.b (nTd rfl) ?_ | refine KK.c (nTd rfl) ?_)
set_option maxRecDepth 20000 in
theorem kt_f_Reader_takeName_26_2 (g : G2) : KO cT g (f_Reader_takeName_26_2 g) := by
  unfold f_Reader_takeName_26_2
  repeat' (with_reducible first | refine KO.ite ?_ ?_ | refine KO.bd ?_ (fun _ _ _ => ?_) | refine KO.bind ?_ (fun _ _ => ?_) | exact KO.no | refine KO.so ?_ | refine KO.via (kt_f_Letters_takeLetters_44_2 ..) ?_ | refine KV.via (kt_f_Letters_takeLetters_44_2 ..) ?_ | refine KO.via (kt_f_Names_find_4 ..) ?_ | refine KV.via (kt_f_Names_find_4 ..) ?_ | refine KO.via (kt_f_Reader_beginSteps_26 ..) ?_ | refine KV.via (kt_f_Reader_beginSteps_26 ..) ?_ | refine KO.via (kt_f_Reader_declareConstant_26 ..) ?_ | refine KV.via (kt_f_Reader_declareConstant_26 ..) ?_ | refine KO.via (kt_f_Reader_declareVariable_26 ..) ?_ | refine KV.via (kt_f_Reader_declareVariable_26 ..) ?_ | refine KO.via (kt_f_Reader_takeApart_26 ..) ?_ | refine KV.via (kt_f_Reader_takeApart_26 ..) ?_ | refine KO.via (kt_f_Reader_takeFloating_26 ..) ?_ | refine KV.via (kt_f_Reader_takeFloating_26 ..) ?_ | refine KO.via (kt_f_Reader_takeLabel_26 ..) ?_ | refine KV.via (kt_f_Reader_takeLabel_26 ..) ?_ | refine KO.via (kt_f_Reader_takeListed_26 ..) ?_ | refine KV.via (kt_f_Reader_takeListed_26 ..) ?_ | refine KO.via (kt_f_Reader_takeStep_26 ..) ?_ | refine KV.via (kt_f_Reader_takeStep_26 ..) ?_ | refine KO.via (kt_f_Reader_takeSymbol_26 ..) ?_ | refine KV.via (kt_f_Reader_takeSymbol_26 ..) ?_ | refine KO.via (kt_f_Reader_takeType_26 ..) ?_ | refine KV.via (kt_f_Reader_takeType_26 ..) ?_ | refine KO.via (kt_f_Text_isTooLong_2 ..) ?_ | refine KV.via (kt_f_Text_isTooLong_2 ..) ?_ | assumption | exact KK.rf | refine KK.i (nTd rfl) ?_ | refine KK.j (nTd rfl) ?_ | refine KK.a (nTd rfl) ?_ | refine KK.b (nTd rfl) ?_ | refine KK.c (nTd rfl) ?_)
set_option maxRecDepth 20000 in
theorem kt_f_Reader_beginNames_26 (a1 : Int) (g : G2) : KO cT g (f_Reader_beginNames_26 a1 g) := by
  unfold f_Reader_beginNames_26
  repeat' (with_reducible first | refine KO.ite ?_ ?_ | refine KO.bd ?_ (fun _ _ _ => ?_) | refine KO.bind ?_ (fun _ _ => ?_) | exact KO.no | refine KO.so ?_ | assumption | exact KK.rf | refine KK.i (nTd rfl) ?_ | refine KK.j (nTd rfl) ?_ | refine KK.a (nTd rfl) ?_ | refine KK.b (nTd rfl) ?_ | refine KK.c (nTd rfl) ?_)
set_option maxRecDepth 20000 in
theorem kt_f_Context_openScope_27 (g : G2) : KO cT g (f_Context_openScope_27 g) := by
  unfold f_Context_openScope_27
  repeat' (with_reducible first | refine KO.ite ?_ ?_ | refine KO.bd ?_ (fun _ _ _ => ?_) | refine KO.bind ?_ (fun _ _ => ?_) | exact KO.no | refine KO.so ?_ | assumption | exact KK.rf | refine KK.i (nTd rfl) ?_ | refine KK.j (nTd rfl) ?_ | refine KK.a (nTd rfl) ?_ | refine KK.b (nTd rfl) ?_ | refine KK.c (nTd rfl) ?_)
set_option maxRecDepth 20000 in
theorem kt_f_Context_closeScope_27 (g : G2) : KO cT g (f_Context_closeScope_27 g) := by
  unfold f_Context_closeScope_27
  repeat' (with_reducible first | refine KO.ite ?_ ?_ | refine KO.bd ?_ (fun _ _ _ => ?_) | refine KO.bind ?_ (fun _ _ => ?_) | exact KO.no | refine KO.so ?_ | refine KO.via (kt_f_Context_forgetPairs_27 ..) ?_ | refine KV.via (kt_f_Context_forgetPairs_27 ..) ?_ | assumption | exact KK.rf | refine KK.i (nTd rfl) ?_ | refine KK.j (nTd rfl) ?_ | refine KK.a (nTd rfl) ?_ | refine KK.b (nTd rfl) ?_ | refine KK.c (nTd rfl) ?_)
set_option maxRecDepth 20000 in
theorem kt_f_Reader_beginUnlabelled_26 (a1 : Int) (g : G2) : KO cT g (f_Reader_beginUnlabelled_26 a1 g) := by
  unfold f_Reader_beginUnlabelled_26
  repeat' (with_reducible first | refine KO.ite ?_ ?_ | refine KO.bd ?_ (fun _ _ _ => ?_) | refine KO.bind ?_ (fun _ _ => ?_) | exact KO.no | refine KO.so ?_ | refine KO.via (kt_f_Context_closeScope_27 ..) ?_ | refine KV.via (kt_f_Context_closeScope_27 ..) ?_ | refine KO.via (kt_f_Context_openScope_27 ..) ?_ | refine KV.via (kt_f_Context_openScope_27 ..) ?_ | refine KO.via (kt_f_Reader_beginNames_26 ..) ?_ | refine KV.via (kt_f_Reader_beginNames_26 ..) ?_ | assumption | exact KK.rf | refine KK.i (nTd rfl) ?_ | refine KK.j (nTd rfl) ?_ | refine KK.a (nTd rfl) ?_ | refine KK.b (nTd rfl) ?_ | refine KK.c (nTd rfl) ?_)
set_option maxRecDepth 20000 in
theorem kt_f_Reader_endNames_26 (a1 : Int) (g : G2) : KO cT g (f_Reader_endNames_26 a1 g) := by
  unfold f_Reader_endNames_26
  repeat' (with_reducible first | refine KO.ite ?_ ?_ | refine KO.bd ?_ (fun _ _ _ => ?_) | refine KO.bind ?_ (fun _ _ => ?_) | exact KO.no | refine KO.so ?_ | assumption | exact KK.rf | refine KK.i (nTd rfl) ?_ | refine KK.j (nTd rfl) ?_ | refine KK.a (nTd rfl) ?_ | refine KK.b (nTd rfl) ?_ | refine KK.c (nTd rfl) ?_)
set_option maxRecDepth 20000 in
theorem kt_f_Reader_takeKind_26 (a1 : Int) (g : G2) : KO cT g (f_Reader_takeKind_26 a1 g) := by
  unfold f_Reader_takeKind_26
  repeat' (with_reducible first | refine KO.ite ?_ ?_ | refine KO.bd ?_ (fun _ _ _ => ?_) | refine KO.bind ?_ (fun _ _ => ?_) | exact KO.no | refine KO.so ?_ | assumption | exact KK.rf | refine KK.i (nTd rfl) ?_ | refine KK.j (nTd rfl) ?_ | refine KK.a (nTd rfl) ?_ | refine KK.b (nTd rfl) ?_ | refine KK.c (nTd rfl) ?_)
set_option maxRecDepth 20000 in
theorem kt_f_Reader_declare_26 (g : G2) : KO cT g (f_Reader_declare_26 g) := by
  unfold f_Reader_declare_26
  repeat' (with_reducible first | refine KO.ite ?_ ?_ | refine KO.bd ?_ (fun _ _ _ => ?_) | refine KO.bind ?_ (fun _ _ => ?_) | exact KO.no | refine KO.so ?_ | refine KO.via (kt_f_Names_add_4 ..) ?_ | refine KV.via (kt_f_Names_add_4 ..) ?_ | refine KO.via (kt_f_Statements_isHypothesis_8 ..) ?_ | refine KV.via (kt_f_Statements_isHypothesis_8 ..) ?_ | assumption | exact KK.rf | refine KK.i (nTd rfl) ?_ | refine KK.j (nTd rfl) ?_ | refine KK.a (nTd rfl) ?_ | refine KK.b (nTd rfl) ?_ | refine KK.c (nTd rfl) ?_)
set_option maxRecDepth 20000 in
theorem kt_b_Assertions_start_17_0 (L : Nat → Int → G2 → Option (G2)) (i2 : Int) (g : G2) (hL : ∀ x0 x1 g, KV cT g (L x0 x1 g)) : KV cT g (b_Assertions_start_17_0 L i2 g) := by
  unfold b_Assertions_start_17_0
  repeat' (with_reducible first | refine KV.ite ?_ ?_ | refine KV.bd ?_ (fun _ _ _ => ?_) | refine KV.bind ?_ (fun _ _ => ?_) | exact KV.no | refine KV.so ?_ | refine KV.via (hL ..) ?_ | assumption | exact KK.rf | refine KK.i (nTd rfl) ?_ | refine KK.j (nTd rfl) ?_ | refine KK.a (nTd rfl) ?_ | refine KK.b (nTd rfl) ?_ | refine KK.c (nTd rfl) ?_)
set_option maxRecDepth 20000 in
theorem kt_l_Assertions_start_17 : ∀ (n : Nat) (x0 : Nat) (x1 : Int) (g : G2), KV cT g (l_Assertions_start_17 n x0 x1 g) := by
  intro n
  induction n with
  | zero => intros; exact KV.no
  | succ n ih =>
    intro x0 x1 g
    unfold l_Assertions_start_17
    try dsimp only
    first | (split <;> (first  | exact kt_b_Assertions_start_17_0 _ _ _ ih)) | (first  | exact kt_b_Assertions_start_17_0 _ _ _ ih)
set_option maxRecDepth 20000 in
theorem kt_f_Assertions_start_17 (a1 : Int) (g : G2) : KV cT g (f_Assertions_start_17 a1 g) := by
  unfold f_Assertions_start_17
  repeat' (with_reducible first | refine KV.ite ?_ ?_ | refine KV.bd ?_ (fun _ _ _ => ?_) | refine KV.bind ?_ (fun _ _ => ?_) | exact KV.no | refine KV.so ?_ | refine KO.via (kt_l_Assertions_start_17 ..) ?_ | refine KV.via (kt_l_Assertions_start_17 ..) ?_ | assumption | exact KK.rf | refine KK.i (nTd rfl) ?_ | refine KK.j (nTd rfl) ?_ | refine KK.a (nTd rfl) ?_ | refine KK.b (nTd rfl) ?_ | refine KK.c (nTd rfl) ?_)
set_option maxRecDepth 20000 in
theorem kt_b_Reader_mandatoryVariables_26_0 (L : Nat → Int → Int64 → Int → G2 → Option (Int64 × G2)) (i1 : Int) (l2 : Int64) (i4 : Int) (g : G2) (hL : ∀ x0 x1 x2 x3 g, KO cT g (L x0 x1 x2 x3 g)) : KO cT g (b_Reader_mandatoryVariables_26_0 L i1 l2 i4 g) := by
  unfold b_Reader_mandatoryVariables_26_0
  repeat' (with_reducible first | refine KO.ite ?_ ?_ | refine KO.bd ?_ (fun _ _ _ => ?_) | refine KO.bind ?_ (fun _ _ => ?_) | exact KO.no | refine KO.so ?_ | refine KO.via (kt_f_Reader_isActiveHypothesis_26 ..) ?_ | refine KV.via (kt_f_Reader_isActiveHypothesis_26 ..) ?_ | refine KO.via (hL ..) ?_ | assumption | exact KK.rf | refine KK.i (nTd rfl) ?_ | refine KK.j (nTd rfl) ?_ | refine KK.a (nTd rfl) ?_ | refine KK.b (nTd rfl) ?_ | refine KK.c (nTd rfl) ?_)
set_option maxRecDepth 20000 in
theorem kt_l_Reader_mandatoryVariables_26 : ∀ (n : Nat) (x0 : Nat) (x1 : Int) (x2 : Int64) (x3 : Int) (g : G2), KO cT g (l_Reader_mandatoryVariables_26 n x0 x1 x2 x3 g) := by
  intro n
  induction n with
  | zero => intros; exact KO.no
  | succ n ih =>
    intro x0 x1 x2 x3 g
    unfold l_Reader_mandatoryVariables_26
    try dsimp only
    first | (split <;> (first  | exact kt_b_Reader_mandatoryVariables_26_0 _ _ _ _ _ ih)) | (first  | exact kt_b_Reader_mandatoryVariables_26_0 _ _ _ _ _ ih)
set_option maxRecDepth 20000 in
theorem kt_f_Reader_mandatoryVariables_26 (a1 : Int) (g : G2) : KO cT g (f_Reader_mandatoryVariables_26 a1 g) := by
  unfold f_Reader_mandatoryVariables_26
  repeat' (with_reducible first | refine KO.ite ?_ ?_ | refine KO.bd ?_ (fun _ _ _ => ?_) | refine KO.bind ?_ (fun _ _ => ?_) | exact KO.no | refine KO.so ?_ | refine KO.via (kt_l_Reader_mandatoryVariables_26 ..) ?_ | refine KV.via (kt_l_Reader_mandatoryVariables_26 ..) ?_ | assumption | exact KK.rf | refine KK.i (nTd rfl) ?_ | refine KK.j (nTd rfl) ?_ | refine KK.a (nTd rfl) ?_ | refine KK.b (nTd rfl) ?_ | refine KK.c (nTd rfl) ?_)
set_option maxRecDepth 20000 in
theorem kt_f_Assertions_addPair_17 (a1 : Int) (g : G2) : KV cT g (f_Assertions_addPair_17 a1 g) := by
  unfold f_Assertions_addPair_17
  repeat' (with_reducible first | refine KV.ite ?_ ?_ | refine KV.bd ?_ (fun _ _ _ => ?_) | refine KV.bind ?_ (fun _ _ => ?_) | exact KV.no | refine KV.so ?_ | assumption | exact KK.rf | refine KK.i (nTd rfl) ?_ | refine KK.j (nTd rfl) ?_ | refine KK.a (nTd rfl) ?_ | refine KK.b (nTd rfl) ?_ | refine KK.c (nTd rfl) ?_)
set_option maxRecDepth 20000 in
theorem kt_b_Reader_keepPairs_26_0 (L : Nat → Int64 → Int → Int64 → Int → G2 → Option (G2)) (l1 : Int64) (i3 : Int) (l4 : Int64) (i6 : Int) (g : G2) (hL : ∀ x0 x1 x2 x3 x4 g, KV cT g (L x0 x1 x2 x3 x4 g)) : KV cT g (b_Reader_keepPairs_26_0 L l1 i3 l4 i6 g) := by
  unfold b_Reader_keepPairs_26_0
  repeat' (with_reducible first | refine KV.ite ?_ ?_ | refine KV.bd ?_ (fun _ _ _ => ?_) | refine KV.bind ?_ (fun _ _ => ?_) | exact KV.no | refine KV.so ?_ | refine KV.via (hL ..) ?_ | assumption | exact KK.rf | refine KK.i (nTd rfl) ?_ | refine KK.j (nTd rfl) ?_ | refine KK.a (nTd rfl) ?_ | refine KK.b (nTd rfl) ?_ | refine KK.c (nTd rfl) ?_)
set_option maxRecDepth 20000 in
theorem kt_b_Reader_keepPairs_26_1 (L : Nat → Int64 → Int → Int64 → Int → G2 → Option (G2)) (l1 : Int64) (i3 : Int) (l4 : Int64) (i6 : Int) (g : G2) (hL : ∀ x0 x1 x2 x3 x4 g, KV cT g (L x0 x1 x2 x3 x4 g)) : KV cT g (b_Reader_keepPairs_26_1 L l1 i3 l4 i6 g) := by
  unfold b_Reader_keepPairs_26_1
  repeat' (with_reducible first | refine KV.ite ?_ ?_ | refine KV.bd ?_ (fun _ _ _ => ?_) | refine KV.bind ?_ (fun _ _ => ?_) | exact KV.no | refine KV.so ?_ | refine KO.via (kt_f_Assertions_addPair_17 ..) ?_ | refine KV.via (kt_f_Assertions_addPair_17 ..) ?_ | refine KO.via (kt_f_Context_pairOf ..) ?_ | refine KV.via (kt_f_Context_pairOf ..) ?_ | refine KV.via (hL ..) ?_ | assumption | exact KK.rf | refine KK.i (nTd rfl) ?_ | refine KK.j (nTd rfl) ?_ | refine KK.a (nTd rfl) ?_ | refine KK.b (nTd rfl) ?_ | refine KK.c (nTd rfl) ?_)
set_option maxRecDepth 20000 in
theorem kt_l_Reader_keepPairs_26 : ∀ (n : Nat) (x0 : Nat) (x1 : Int64) (x2 : Int) (x3 : Int64) (x4 : Int) (g : G2), KV cT g (l_Reader_keepPairs_26 n x0 x1 x2 x3 x4 g) := by
  intro n
  induction n with
  | zero => intros; exact KV.no
  | succ n ih =>
    intro x0 x1 x2 x3 x4 g
    unfold l_Reader_keepPairs_26
    try dsimp only
    first | (split <;> (first  | exact kt_b_Reader_keepPairs_26_0 _ _ _ _ _ _ ih | exact kt_b_Reader_keepPairs_26_1 _ _ _ _ _ _ ih)) | (first  | exact kt_b_Reader_keepPairs_26_0 _ _ _ _ _ _ ih | exact kt_b_Reader_keepPairs_26_1 _ _ _ _ _ _ ih)
set_option maxRecDepth 20000 in
theorem kt_f_Reader_keepPairs_26 (a1 : Int64) (g : G2) : KV cT g (f_Reader_keepPairs_26 a1 g) := by
  unfold f_Reader_keepPairs_26
  repeat' (with_reducible first | refine KV.ite ?_ ?_ | refine KV.bd ?_ (fun _ _ _ => ?_) | refine KV.bind ?_ (fun _ _ => ?_) | exact KV.no | refine KV.so ?_ | refine KO.via (kt_l_Reader_keepPairs_26 ..) ?_ | refine KV.via (kt_l_Reader_keepPairs_26 ..) ?_ | assumption | exact KK.rf | refine KK.i (nTd rfl) ?_ | refine KK.j (nTd rfl) ?_ | refine KK.a (nTd rfl) ?_ | refine KK.b (nTd rfl) ?_ | refine KK.c (nTd rfl) ?_)
set_option maxRecDepth 20000 in
theorem kt_b_Reader_beginAssertion_26_0 (L : Nat → Int → Int64 → Int → G2 → Option (G2)) (i1 : Int) (l2 : Int64) (i4 : Int) (g : G2) (hL : ∀ x0 x1 x2 x3 g, KV cT g (L x0 x1 x2 x3 g)) : KV cT g (b_Reader_beginAssertion_26_0 L i1 l2 i4 g) := by
  unfold b_Reader_beginAssertion_26_0
  repeat' (with_reducible first | refine KV.ite ?_ ?_ | refine KV.bd ?_ (fun _ _ _ => ?_) | refine KV.bind ?_ (fun _ _ => ?_) | exact KV.no | refine KV.so ?_ | refine KO.via (kt_f_Reader_isActiveHypothesis_26 ..) ?_ | refine KV.via (kt_f_Reader_isActiveHypothesis_26 ..) ?_ | refine KO.via (kt_f_Reader_keepPairs_26 ..) ?_ | refine KV.via (kt_f_Reader_keepPairs_26 ..) ?_ | refine KV.via (hL ..) ?_ | assumption | exact KK.rf | refine KK.i (nTd rfl) ?_ | refine KK.j (nTd rfl) ?_ | refine KK.a (nTd rfl) ?_ | refine KK.b (nTd rfl) ?_ | refine KK.c (nTd rfl) ?_)
set_option maxRecDepth 20000 in
theorem kt_b_Reader_beginAssertion_26_1 (L : Nat → Int → Int64 → Int → G2 → Option (G2)) (i1 : Int) (l2 : Int64) (i4 : Int) (g : G2) (hL : ∀ x0 x1 x2 x3 g, KV cT g (L x0 x1 x2 x3 g)) : KV cT g (b_Reader_beginAssertion_26_1 L i1 l2 i4 g) := by
  unfold b_Reader_beginAssertion_26_1
  repeat' (with_reducible first | refine KV.ite ?_ ?_ | refine KV.bd ?_ (fun _ _ _ => ?_) | refine KV.bind ?_ (fun _ _ => ?_) | exact KV.no | refine KV.so ?_ | refine KV.via (hL ..) ?_ | assumption | exact KK.rf | refine KK.i (nTd rfl) ?_ | refine KK.j (nTd rfl) ?_ | refine KK.a (nTd rfl) ?_ | refine KK.b (nTd rfl) ?_ | refine KK.c (nTd rfl) ?_)
set_option maxRecDepth 20000 in
theorem kt_b_Reader_beginAssertion_26_2 (L : Nat → Int → Int64 → Int → G2 → Option (G2)) (i1 : Int) (l2 : Int64) (i4 : Int) (g : G2) (hL : ∀ x0 x1 x2 x3 g, KV cT g (L x0 x1 x2 x3 g)) : KV cT g (b_Reader_beginAssertion_26_2 L i1 l2 i4 g) := by
  unfold b_Reader_beginAssertion_26_2
  repeat' (with_reducible first | refine KV.ite ?_ ?_ | refine KV.bd ?_ (fun _ _ _ => ?_) | refine KV.bind ?_ (fun _ _ => ?_) | exact KV.no | refine KV.so ?_ | refine KV.via (hL ..) ?_ | assumption | exact KK.rf | refine KK.i (nTd rfl) ?_ | refine KK.j (nTd rfl) ?_ | refine KK.a (nTd rfl) ?_ | refine KK.b (nTd rfl) ?_ | refine KK.c (nTd rfl) ?_)
set_option maxRecDepth 20000 in
theorem kt_l_Reader_beginAssertion_26 : ∀ (n : Nat) (x0 : Nat) (x1 : Int) (x2 : Int64) (x3 : Int) (g : G2), KV cT g (l_Reader_beginAssertion_26 n x0 x1 x2 x3 g) := by
  intro n
  induction n with
  | zero => intros; exact KV.no
  | succ n ih =>
    intro x0 x1 x2 x3 g
    unfold l_Reader_beginAssertion_26
    try dsimp only
    first | (split <;> (first  | exact kt_b_Reader_beginAssertion_26_0 _ _ _ _ _ ih | exact kt_b_Reader_beginAssertion_26_1 _ _ _ _ _ ih | exact kt_b_Reader_beginAssertion_26_2 _ _ _ _ _ ih)) | (first  | exact kt_b_Reader_beginAssertion_26_0 _ _ _ _ _ ih | exact kt_b_Reader_beginAssertion_26_1 _ _ _ _ _ ih | exact kt_b_Reader_beginAssertion_26_2 _ _ _ _ _ ih)
set_option maxRecDepth 20000 in
theorem kt_f_Reader_beginAssertion_26 (a1 : Int) (g : G2) : KV cT g (f_Reader_beginAssertion_26 a1 g) := by
  unfold f_Reader_beginAssertion_26
  repeat' (with_reducible first | refine KV.ite ?_ ?_ | refine KV.bd ?_ (fun _ _ _ => ?_) | refine KV.bind ?_ (fun _ _ => ?_) | exact KV.no | refine KV.so ?_ | refine KO.via (kt_f_Assertions_start_17 ..) ?_ | refine KV.via (kt_f_Assertions_start_17 ..) ?_ | refine KO.via (kt_f_Reader_mandatoryVariables_26 ..) ?_ | refine KV.via (kt_f_Reader_mandatoryVariables_26 ..) ?_ | refine KO.via (kt_l_Reader_beginAssertion_26 ..) ?_ | refine KV.via (kt_l_Reader_beginAssertion_26 ..) ?_ | assumption | exact KK.rf | refine KK.i (nTd rfl) ?_ | refine KK.j (nTd rfl) ?_ | refine KK.a (nTd rfl) ?_ | refine KK.b (nTd rfl) ?_ | refine KK.c (nTd rfl) ?_)
set_option maxRecDepth 20000 in
theorem kt_f_Proof_begin_34 (g : G2) : KV cT g (f_Proof_begin_34 g) := by
  unfold f_Proof_begin_34
  repeat' (with_reducible first | refine KV.ite ?_ ?_ | refine KV.bd ?_ (fun _ _ _ => ?_) | refine KV.bind ?_ (fun _ _ => ?_) | exact KV.no | refine KV.so ?_ | assumption | exact KK.rf | refine KK.i (nTd rfl) ?_ | refine KK.j (nTd rfl) ?_ | refine KK.a (nTd rfl) ?_ | refine KK.b (nTd rfl) ?_ | refine KK.c (nTd rfl) ?_)
set_option maxRecDepth 20000 in
theorem kt_f_Reader_endSymbols_26 (a1 : Int) (g : G2) : KO cT g (f_Reader_endSymbols_26 a1 g) := by
  unfold f_Reader_endSymbols_26
  repeat' (with_reducible first | refine KO.ite ?_ ?_ | refine KO.bd ?_ (fun _ _ _ => ?_) | refine KO.bind ?_ (fun _ _ => ?_) | exact KO.no | refine KO.so ?_ | refine KO.via (kt_f_Proof_begin_34 ..) ?_ | refine KV.via (kt_f_Proof_begin_34 ..) ?_ | refine KO.via (kt_f_Reader_beginAssertion_26 ..) ?_ | refine KV.via (kt_f_Reader_beginAssertion_26 ..) ?_ | refine KO.via (kt_f_Reader_declare_26 ..) ?_ | refine KV.via (kt_f_Reader_declare_26 ..) ?_ | refine KO.via (kt_f_Statements_isHypothesis_8 ..) ?_ | refine KV.via (kt_f_Statements_isHypothesis_8 ..) ?_ | assumption | exact KK.rf | refine KK.i (nTd rfl) ?_ | refine KK.j (nTd rfl) ?_ | refine KK.a (nTd rfl) ?_ | refine KK.b (nTd rfl) ?_ | refine KK.c (nTd rfl) ?_)
set_option maxRecDepth 20000 in
theorem kt_b_Expressions_isSame_35_11_0 (L : Nat → Int → Int → Int → G2 → Option (Int × G2)) (i1 : Int) (i3 : Int) (i4 : Int) (g : G2) (hL : ∀ x0 x1 x2 x3 g, KO cT g (L x0 x1 x2 x3 g)) : KO cT g (b_Expressions_isSame_35_11_0 L i1 i3 i4 g) := by
  unfold b_Expressions_isSame_35_11_0
  repeat' (with_reducible first | refine KO.ite ?_ ?_ | refine KO.bd ?_ (fun _ _ _ => ?_) | refine KO.bind ?_ (fun _ _ => ?_) | exact KO.no | refine KO.so ?_ | refine KO.via (hL ..) ?_ | assumption | exact KK.rf | refine KK.i (nTd rfl) ?_ | refine KK.j (nTd rfl) ?_ | refine KK.a (nTd rfl) ?_ | refine KK.b (nTd rfl) ?_ | refine KK.c (nTd rfl) ?_)
set_option maxRecDepth 20000 in
theorem kt_l_Expressions_isSame_35_11 : ∀ (n : Nat) (x0 : Nat) (x1 : Int) (x2 : Int) (x3 : Int) (g : G2), KO cT g (l_Expressions_isSame_35_11 n x0 x1 x2 x3 g) := by
  intro n
  induction n with
  | zero => intros; exact KO.no
  | succ n ih =>
    intro x0 x1 x2 x3 g
    unfold l_Expressions_isSame_35_11
    try dsimp only
    first | (split <;> (first  | exact kt_b_Expressions_isSame_35_11_0 _ _ _ _ _ ih)) | (first  | exact kt_b_Expressions_isSame_35_11_0 _ _ _ _ _ ih)
set_option maxRecDepth 20000 in
theorem kt_f_Expressions_isSame_35_11 (a1 : Int) (a3 : Int) (g : G2) : KO cT g (f_Expressions_isSame_35_11 a1 a3 g) := by
  unfold f_Expressions_isSame_35_11
  repeat' (with_reducible first | refine KO.ite ?_ ?_ | refine KO.bd ?_ (fun _ _ _ => ?_) | refine KO.bind ?_ (fun _ _ => ?_) | exact KO.no | refine KO.so ?_ | refine KO.via (kt_l_Expressions_isSame_35_11 ..) ?_ | refine KV.via (kt_l_Expressions_isSame_35_11 ..) ?_ | assumption | exact KK.rf | refine KK.i (nTd rfl) ?_ | refine KK.j (nTd rfl) ?_ | refine KK.a (nTd rfl) ?_ | refine KK.b (nTd rfl) ?_ | refine KK.c (nTd rfl) ?_)
set_option maxRecDepth 20000 in
theorem kt_f_Proof_finish_34 (a1 : Int) (g : G2) : KO cT g (f_Proof_finish_34 a1 g) := by
  unfold f_Proof_finish_34
  repeat' (with_reducible first | refine KO.ite ?_ ?_ | refine KO.bd ?_ (fun _ _ _ => ?_) | refine KO.bind ?_ (fun _ _ => ?_) | exact KO.no | refine KO.so ?_ | refine KO.via (kt_f_Expressions_isSame_35_11 ..) ?_ | refine KV.via (kt_f_Expressions_isSame_35_11 ..) ?_ | assumption | exact KK.rf | refine KK.i (nTd rfl) ?_ | refine KK.j (nTd rfl) ?_ | refine KK.a (nTd rfl) ?_ | refine KK.b (nTd rfl) ?_ | refine KK.c (nTd rfl) ?_)
set_option maxRecDepth 20000 in
theorem kt_f_Reader_endProof_26 (g : G2) : KO cT g (f_Reader_endProof_26 g) := by
  unfold f_Reader_endProof_26
  repeat' (with_reducible first | refine KO.ite ?_ ?_ | refine KO.bd ?_ (fun _ _ _ => ?_) | refine KO.bind ?_ (fun _ _ => ?_) | exact KO.no | refine KO.so ?_ | refine KO.via (kt_f_Proof_finish_34 ..) ?_ | refine KV.via (kt_f_Proof_finish_34 ..) ?_ | refine KO.via (kt_f_Reader_declare_26 ..) ?_ | refine KV.via (kt_f_Reader_declare_26 ..) ?_ | assumption | exact KK.rf | refine KK.i (nTd rfl) ?_ | refine KK.j (nTd rfl) ?_ | refine KK.a (nTd rfl) ?_ | refine KK.b (nTd rfl) ?_ | refine KK.c (nTd rfl) ?_)
set_option maxRecDepth 20000 in
theorem kt_f_Reader_takeKeyword_26_2 (g : G2) : KO cT g (f_Reader_takeKeyword_26_2 g) := by
  unfold f_Reader_takeKeyword_26_2
  repeat' (with_reducible first | refine KO.ite ?_ ?_ | refine KO.bd ?_ (fun _ _ _ => ?_) | refine KO.bind ?_ (fun _ _ => ?_) | exact KO.no | refine KO.so ?_ | refine KO.via (kt_f_Reader_beginUnlabelled_26 ..) ?_ | refine KV.via (kt_f_Reader_beginUnlabelled_26 ..) ?_ | refine KO.via (kt_f_Reader_declare_26 ..) ?_ | refine KV.via (kt_f_Reader_declare_26 ..) ?_ | refine KO.via (kt_f_Reader_endNames_26 ..) ?_ | refine KV.via (kt_f_Reader_endNames_26 ..) ?_ | refine KO.via (kt_f_Reader_endProof_26 ..) ?_ | refine KV.via (kt_f_Reader_endProof_26 ..) ?_ | refine KO.via (kt_f_Reader_endSymbols_26 ..) ?_ | refine KV.via (kt_f_Reader_endSymbols_26 ..) ?_ | refine KO.via (kt_f_Reader_takeKind_26 ..) ?_ | refine KV.via (kt_f_Reader_takeKind_26 ..) ?_ | refine KO.via (kt_f_Text_keyword_2 ..) ?_ | refine KV.via (kt_f_Text_keyword_2 ..) ?_ | assumption | exact KK.rf | refine KK.i (nTd rfl) ?_ | refine KK.j (nTd rfl) ?_ | refine KK.a (nTd rfl) ?_ | refine KK.b (nTd rfl) ?_ | refine KK.c (nTd rfl) ?_)
