/-! ===== both readings leave the texts alone, and one field that is never written (laid by tools/keep3.py) ===== -/
def KX (g g' : G2) : Prop := (rI g' 1 1 = rI g 1 1 ∧ rI g' 49 1 = rI g 49 1 ∧ rI g' 38 4 = rI g 38 4) ∧ g'.2.2.1 2 = g.2.2.1 2 ∧ g'.2.2.1 50 = g.2.2.1 50
def XO {α : Type} (g : G2) (o : Option (α × G2)) : Prop := ∀ r g', o = some (r, g') → KX g g'
def XV (g : G2) (o : Option G2) : Prop := ∀ g', o = some g' → KX g g'
theorem KX.rf {g : G2} : KX g g := ⟨⟨rfl, rfl, rfl⟩, rfl, rfl⟩
theorem KX.tr {a b c : G2} (h : KX a b) (k : KX b c) : KX a c := ⟨⟨k.1.1.trans h.1.1, k.1.2.1.trans h.1.2.1, k.1.2.2.trans h.1.2.2⟩, k.2.1.trans h.2.1, k.2.2.trans h.2.2⟩
theorem rI_ne {g : G2} {r k r' k' : Nat} {v : Int} (h : ¬ (r' = r ∧ k' = k)) : rI (gI g r k v) r' k' = rI g r' k' := by
  show am_upd g.1 r (am_upd (g.1 r) k v) r' k' = g.1 r' k'
  by_cases hr : r' = r
  · subst hr
    rw [updN_at, am_updN (by omega)]
  · rw [am_updN hr]
theorem KX.i {g g' : G2} {r k : Nat} {v : Int} (h : decide (¬ (1 = r ∧ 1 = k) ∧ ¬ (49 = r ∧ 1 = k) ∧ ¬ (38 = r ∧ 4 = k)) = true) (a : KX g g') : KX g (gI g' r k v) := by
  have h := of_decide_eq_true h
  exact ⟨⟨(rI_ne h.1).trans a.1.1, (rI_ne h.2.1).trans a.1.2.1, (rI_ne h.2.2).trans a.1.2.2⟩, a.2⟩
theorem KX.j {g g' : G2} {r k : Nat} {v : Int64} (h : decide (0 = 0) = true) (a : KX g g') : KX g (gJ g' r k v) := a
theorem KX.a {g g' : G2} {r : Nat} {k v : Int} (h : decide (2 ≠ r ∧ 50 ≠ r) = true) (a : KX g g') : KX g (gA g' r k v) := by
  have h := of_decide_eq_true h
  exact ⟨a.1, (am_updN h.1).trans a.2.1, (am_updN h.2).trans a.2.2⟩
theorem KX.b {g g' : G2} {r : Nat} {k : Int} {v : Int64} (h : decide (0 = 0) = true) (a : KX g g') : KX g (gB g' r k v) := a
theorem KX.c {g g' : G2} {s r : Nat} {x y z : Int} (h : decide (2 ≠ r ∧ 50 ≠ r) = true) (a : KX g g') : KX g (gC g' s r x y z) := by
  have h := of_decide_eq_true h
  exact ⟨a.1, (am_updN h.1).trans a.2.1, (am_updN h.2).trans a.2.2⟩
theorem XO.no {α : Type} {g : G2} : XO (α := α) g none := fun _ _ h => by cases h
theorem XV.no {g : G2} : XV g none := fun _ h => by cases h
theorem XO.so {α : Type} {g g' : G2} {r : α} (h : KX g g') : XO g (some (r, g')) := fun _ _ e => by cases e; exact h
theorem XV.so {g g' : G2} (h : KX g g') : XV g (some g') := fun _ e => by cases e; exact h
theorem XO.ite {α : Type} {g : G2} {c : Prop} [Decidable c] {x y : Option (α × G2)} (h : XO g x) (k : XO g y) : XO g (if c then x else y) := by split; exact h; exact k
theorem XV.ite {g : G2} {c : Prop} [Decidable c] {x y : Option G2} (h : XV g x) (k : XV g y) : XV g (if c then x else y) := by split; exact h; exact k
theorem XO.via {α : Type} {g g1 : G2} {x : Option (α × G2)} (h : XO g1 x) (k : KX g g1) : XO g x := fun r g' e => k.tr (h r g' e)
theorem XV.via {g g1 : G2} {x : Option G2} (h : XV g1 x) (k : KX g g1) : XV g x := fun g' e => k.tr (h g' e)
theorem XO.bd {α β : Type} {g : G2} {x : Option (β × G2)} {f : β → G2 → Option (α × G2)} (h : XO g x) (k : ∀ r g2, KX g g2 → XO g (f r g2)) : XO g (bd x f) := fun r g' e => by
  obtain ⟨a, g2, e1, e2⟩ := bd_inv e
  exact k a g2 (h a g2 e1) r g' e2
theorem XV.bd {β : Type} {g : G2} {x : Option (β × G2)} {f : β → G2 → Option G2} (h : XO g x) (k : ∀ r g2, KX g g2 → XV g (f r g2)) : XV g (bd x f) := fun g' e => by
  obtain ⟨a, g2, e1, e2⟩ := bd_inv e
  exact k a g2 (h a g2 e1) g' e2
theorem XO.bind {α : Type} {g : G2} {x : Option G2} {f : G2 → Option (α × G2)} (h : XV g x) (k : ∀ g2, KX g g2 → XO g (f g2)) : XO g (x.bind f) := fun r g' e => by
  obtain ⟨g2, e1, e2⟩ := Option.bind_eq_some_iff.mp e
  exact k g2 (h g2 e1) r g' e2
theorem XV.bind {g : G2} {x : Option G2} {f : G2 → Option G2} (h : XV g x) (k : ∀ g2, KX g g2 → XV g (f g2)) : XV g (x.bind f) := fun g' e => by
  obtain ⟨g2, e1, e2⟩ := Option.bind_eq_some_iff.mp e
  exact k g2 (h g2 e1) g' e2
set_option maxRecDepth 20000 in
theorem kx_f_Text_rewind_2 (g : G2) : XV  g (f_Text_rewind_2 g) := by
  unfold f_Text_rewind_2
  repeat' (with_reducible first | refine XV.ite ?_ ?_ | refine XV.bd ?_ (fun _ _ _ => ?_) | refine XV.bind ?_ (fun _ _ => ?_) | exact XV.no | refine XV.so ?_ | assumption | exact KX.rf | refine KX.i rfl ?_ | refine KX.j rfl ?_ | refine KX.a rfl ?_ | refine KX.b rfl ?_ | refine KX.c rfl ?_)
set_option maxRecDepth 20000 in
theorem kx_f_Names_begin_4 (g : G2) : XV  g (f_Names_begin_4 g) := by
  unfold f_Names_begin_4
  repeat' (with_reducible first | refine XV.ite ?_ ?_ | refine XV.bd ?_ (fun _ _ _ => ?_) | refine XV.bind ?_ (fun _ _ => ?_) | exact XV.no | refine XV.so ?_ | assumption | exact KX.rf | refine KX.i rfl ?_ | refine KX.j rfl ?_ | refine KX.a rfl ?_ | refine KX.b rfl ?_ | refine KX.c rfl ?_)
set_option maxRecDepth 20000 in
theorem kx_b_J_fill_29_0 (L : Nat → Int64 → Int → Int → G2 → Option (G2)) (l1 : Int64) (i3 : Int) (i4 : Int) (g : G2) (hL : ∀ x0 x1 x2 x3 g, XV  g (L x0 x1 x2 x3 g)) : XV  g (b_J_fill_29_0 L l1 i3 i4 g) := by
  unfold b_J_fill_29_0
  repeat' (with_reducible first | refine XV.ite ?_ ?_ | refine XV.bd ?_ (fun _ _ _ => ?_) | refine XV.bind ?_ (fun _ _ => ?_) | exact XV.no | refine XV.so ?_ | refine XV.via (hL ..) ?_ | assumption | exact KX.rf | refine KX.i rfl ?_ | refine KX.j rfl ?_ | refine KX.a rfl ?_ | refine KX.b rfl ?_ | refine KX.c rfl ?_)
set_option maxRecDepth 20000 in
theorem kx_l_J_fill_29 : ∀ (n : Nat) (x0 : Nat) (x1 : Int64) (x2 : Int) (x3 : Int) (g : G2), XV  g (l_J_fill_29 n x0 x1 x2 x3 g) := by
  intro n
  induction n with
  | zero => intros; exact XV.no
  | succ n ih =>
    intro x0 x1 x2 x3 g
    unfold l_J_fill_29
    try dsimp only
    first | (split <;> (first  | exact kx_b_J_fill_29_0 _ _ _ _ _ ih)) | (first  | exact kx_b_J_fill_29_0 _ _ _ _ _ ih)
set_option maxRecDepth 20000 in
theorem kx_f_J_fill_29 (a1 : Int64) (g : G2) : XV  g (f_J_fill_29 a1 g) := by
  unfold f_J_fill_29
  repeat' (with_reducible first | refine XV.ite ?_ ?_ | refine XV.bd ?_ (fun _ _ _ => ?_) | refine XV.bind ?_ (fun _ _ => ?_) | exact XV.no | refine XV.so ?_ | refine XO.via (kx_l_J_fill_29 ..) ?_ | refine XV.via (kx_l_J_fill_29 ..) ?_ | assumption | exact KX.rf | refine KX.i rfl ?_ | refine KX.j rfl ?_ | refine KX.a rfl ?_ | refine KX.b rfl ?_ | refine KX.c rfl ?_)
set_option maxRecDepth 20000 in
theorem kx_f_Context_firstOf (a0 : Int) (g : G2) : XO  g (f_Context_firstOf a0 g) := by
  unfold f_Context_firstOf
  repeat' (with_reducible first | refine XO.ite ?_ ?_ | refine XO.bd ?_ (fun _ _ _ => ?_) | refine XO.bind ?_ (fun _ _ => ?_) | exact XO.no | refine XO.so ?_ | assumption | exact KX.rf | refine KX.i rfl ?_ | refine KX.j rfl ?_ | refine KX.a rfl ?_ | refine KX.b rfl ?_ | refine KX.c rfl ?_)
set_option maxRecDepth 20000 in
theorem kx_f_Context_secondOf (a0 : Int) (g : G2) : XO  g (f_Context_secondOf a0 g) := by
  unfold f_Context_secondOf
  repeat' (with_reducible first | refine XO.ite ?_ ?_ | refine XO.bd ?_ (fun _ _ _ => ?_) | refine XO.bind ?_ (fun _ _ => ?_) | exact XO.no | refine XO.so ?_ | assumption | exact KX.rf | refine KX.i rfl ?_ | refine KX.j rfl ?_ | refine KX.a rfl ?_ | refine KX.b rfl ?_ | refine KX.c rfl ?_)
set_option maxRecDepth 20000 in
theorem kx_f_Context_pairOf (a0 : Int) (a1 : Int) (g : G2) : XO  g (f_Context_pairOf a0 a1 g) := by
  unfold f_Context_pairOf
  repeat' (with_reducible first | refine XO.ite ?_ ?_ | refine XO.bd ?_ (fun _ _ _ => ?_) | refine XO.bind ?_ (fun _ _ => ?_) | exact XO.no | refine XO.so ?_ | assumption | exact KX.rf | refine KX.i rfl ?_ | refine KX.j rfl ?_ | refine KX.a rfl ?_ | refine KX.b rfl ?_ | refine KX.c rfl ?_)
set_option maxRecDepth 20000 in
theorem kx_f_Context_addPair_27 (a1 : Int) (a2 : Int) (g : G2) : XV  g (f_Context_addPair_27 a1 a2 g) := by
  unfold f_Context_addPair_27
  repeat' (with_reducible first | refine XV.ite ?_ ?_ | refine XV.bd ?_ (fun _ _ _ => ?_) | refine XV.bind ?_ (fun _ _ => ?_) | exact XV.no | refine XV.so ?_ | refine XO.via (kx_f_Context_pairOf ..) ?_ | refine XV.via (kx_f_Context_pairOf ..) ?_ | assumption | exact KX.rf | refine KX.i rfl ?_ | refine KX.j rfl ?_ | refine KX.a rfl ?_ | refine KX.b rfl ?_ | refine KX.c rfl ?_)
set_option maxRecDepth 20000 in
theorem kx_b_Context_forgetPairs_27_0 (L : Nat → Int → Int → G2 → Option (G2)) (i1 : Int) (i2 : Int) (g : G2) (hL : ∀ x0 x1 x2 g, XV  g (L x0 x1 x2 g)) : XV  g (b_Context_forgetPairs_27_0 L i1 i2 g) := by
  unfold b_Context_forgetPairs_27_0
  repeat' (with_reducible first | refine XV.ite ?_ ?_ | refine XV.bd ?_ (fun _ _ _ => ?_) | refine XV.bind ?_ (fun _ _ => ?_) | exact XV.no | refine XV.so ?_ | refine XO.via (kx_f_Context_addPair_27 ..) ?_ | refine XV.via (kx_f_Context_addPair_27 ..) ?_ | refine XO.via (kx_f_Context_firstOf ..) ?_ | refine XV.via (kx_f_Context_firstOf ..) ?_ | refine XO.via (kx_f_Context_secondOf ..) ?_ | refine XV.via (kx_f_Context_secondOf ..) ?_ | refine XV.via (hL ..) ?_ | assumption | exact KX.rf | refine KX.i rfl ?_ | refine KX.j rfl ?_ | refine KX.a rfl ?_ | refine KX.b rfl ?_ | refine KX.c rfl ?_)
set_option maxRecDepth 20000 in
theorem kx_l_Context_forgetPairs_27 : ∀ (n : Nat) (x0 : Nat) (x1 : Int) (x2 : Int) (g : G2), XV  g (l_Context_forgetPairs_27 n x0 x1 x2 g) := by
  intro n
  induction n with
  | zero => intros; exact XV.no
  | succ n ih =>
    intro x0 x1 x2 g
    unfold l_Context_forgetPairs_27
    try dsimp only
    first | (split <;> (first  | exact kx_b_Context_forgetPairs_27_0 _ _ _ _ ih)) | (first  | exact kx_b_Context_forgetPairs_27_0 _ _ _ _ ih)
set_option maxRecDepth 20000 in
theorem kx_f_Context_forgetPairs_27 (a1 : Int) (g : G2) : XV  g (f_Context_forgetPairs_27 a1 g) := by
  unfold f_Context_forgetPairs_27
  repeat' (with_reducible first | refine XV.ite ?_ ?_ | refine XV.bd ?_ (fun _ _ _ => ?_) | refine XV.bind ?_ (fun _ _ => ?_) | exact XV.no | refine XV.so ?_ | refine XO.via (kx_f_J_fill_29 ..) ?_ | refine XV.via (kx_f_J_fill_29 ..) ?_ | refine XO.via (kx_l_Context_forgetPairs_27 ..) ?_ | refine XV.via (kx_l_Context_forgetPairs_27 ..) ?_ | assumption | exact KX.rf | refine KX.i rfl ?_ | refine KX.j rfl ?_ | refine KX.a rfl ?_ | refine KX.b rfl ?_ | refine KX.c rfl ?_)
set_option maxRecDepth 20000 in
theorem kx_f_Context_begin_27 (g : G2) : XV  g (f_Context_begin_27 g) := by
  unfold f_Context_begin_27
  repeat' (with_reducible first | refine XV.ite ?_ ?_ | refine XV.bd ?_ (fun _ _ _ => ?_) | refine XV.bind ?_ (fun _ _ => ?_) | exact XV.no | refine XV.so ?_ | refine XO.via (kx_f_Context_forgetPairs_27 ..) ?_ | refine XV.via (kx_f_Context_forgetPairs_27 ..) ?_ | assumption | exact KX.rf | refine KX.i rfl ?_ | refine KX.j rfl ?_ | refine KX.a rfl ?_ | refine KX.b rfl ?_ | refine KX.c rfl ?_)
set_option maxRecDepth 20000 in
theorem kx_f_Reader_begin_26 (g : G2) : XV  g (f_Reader_begin_26 g) := by
  unfold f_Reader_begin_26
  repeat' (with_reducible first | refine XV.ite ?_ ?_ | refine XV.bd ?_ (fun _ _ _ => ?_) | refine XV.bind ?_ (fun _ _ => ?_) | exact XV.no | refine XV.so ?_ | refine XO.via (kx_f_Context_begin_27 ..) ?_ | refine XV.via (kx_f_Context_begin_27 ..) ?_ | refine XO.via (kx_f_Names_begin_4 ..) ?_ | refine XV.via (kx_f_Names_begin_4 ..) ?_ | assumption | exact KX.rf | refine KX.i rfl ?_ | refine KX.j rfl ?_ | refine KX.a rfl ?_ | refine KX.b rfl ?_ | refine KX.c rfl ?_)
set_option maxRecDepth 20000 in
theorem kx_b_Text_scanWord_2_0 (L : Nat → G2 → Option (Int × G2)) (g : G2) (hL : ∀ x0 g, XO  g (L x0 g)) : XO  g (b_Text_scanWord_2_0 L g) := by
  unfold b_Text_scanWord_2_0
  repeat' (with_reducible first | refine XO.ite ?_ ?_ | refine XO.bd ?_ (fun _ _ _ => ?_) | refine XO.bind ?_ (fun _ _ => ?_) | exact XO.no | refine XO.so ?_ | refine XO.via (hL ..) ?_ | assumption | exact KX.rf | refine KX.i rfl ?_ | refine KX.j rfl ?_ | refine KX.a rfl ?_ | refine KX.b rfl ?_ | refine KX.c rfl ?_)
set_option maxRecDepth 20000 in
theorem kx_b_Text_scanWord_2_1 (L : Nat → G2 → Option (Int × G2)) (g : G2) (hL : ∀ x0 g, XO  g (L x0 g)) : XO  g (b_Text_scanWord_2_1 L g) := by
  unfold b_Text_scanWord_2_1
  repeat' (with_reducible first | refine XO.ite ?_ ?_ | refine XO.bd ?_ (fun _ _ _ => ?_) | refine XO.bind ?_ (fun _ _ => ?_) | exact XO.no | refine XO.so ?_ | refine XO.via (hL ..) ?_ | assumption | exact KX.rf | refine KX.i rfl ?_ | refine KX.j rfl ?_ | refine KX.a rfl ?_ | refine KX.b rfl ?_ | refine KX.c rfl ?_)
set_option maxRecDepth 20000 in
theorem kx_b_Text_scanWord_2_2 (L : Nat → G2 → Option (Int × G2)) (g : G2) (hL : ∀ x0 g, XO  g (L x0 g)) : XO  g (b_Text_scanWord_2_2 L g) := by
  unfold b_Text_scanWord_2_2
  repeat' (with_reducible first | refine XO.ite ?_ ?_ | refine XO.bd ?_ (fun _ _ _ => ?_) | refine XO.bind ?_ (fun _ _ => ?_) | exact XO.no | refine XO.so ?_ | refine XO.via (hL ..) ?_ | assumption | exact KX.rf | refine KX.i rfl ?_ | refine KX.j rfl ?_ | refine KX.a rfl ?_ | refine KX.b rfl ?_ | refine KX.c rfl ?_)
set_option maxRecDepth 20000 in
theorem kx_b_Text_scanWord_2_3 (L : Nat → G2 → Option (Int × G2)) (g : G2) (hL : ∀ x0 g, XO  g (L x0 g)) : XO  g (b_Text_scanWord_2_3 L g) := by
  unfold b_Text_scanWord_2_3
  repeat' (with_reducible first | refine XO.ite ?_ ?_ | refine XO.bd ?_ (fun _ _ _ => ?_) | refine XO.bind ?_ (fun _ _ => ?_) | exact XO.no | refine XO.so ?_ | refine XO.via (hL ..) ?_ | assumption | exact KX.rf | refine KX.i rfl ?_ | refine KX.j rfl ?_ | refine KX.a rfl ?_ | refine KX.b rfl ?_ | refine KX.c rfl ?_)
set_option maxRecDepth 20000 in
theorem kx_l_Text_scanWord_2 : ∀ (n : Nat) (x0 : Nat) (g : G2), XO  g (l_Text_scanWord_2 n x0 g) := by
  intro n
  induction n with
  | zero => intros; exact XO.no
  | succ n ih =>
    intro x0 g
    unfold l_Text_scanWord_2
    try dsimp only
    first | (split <;> (first  | exact kx_b_Text_scanWord_2_0 _ _ ih | exact kx_b_Text_scanWord_2_1 _ _ ih | exact kx_b_Text_scanWord_2_2 _ _ ih | exact kx_b_Text_scanWord_2_3 _ _ ih)) | (first  | exact kx_b_Text_scanWord_2_0 _ _ ih | exact kx_b_Text_scanWord_2_1 _ _ ih | exact kx_b_Text_scanWord_2_2 _ _ ih | exact kx_b_Text_scanWord_2_3 _ _ ih)
set_option maxRecDepth 20000 in
theorem kx_f_Text_scanWord_2 (g : G2) : XO  g (f_Text_scanWord_2 g) := by
  unfold f_Text_scanWord_2
  repeat' (with_reducible first | refine XO.ite ?_ ?_ | refine XO.bd ?_ (fun _ _ _ => ?_) | refine XO.bind ?_ (fun _ _ => ?_) | exact XO.no | refine XO.so ?_ | refine XO.via (kx_l_Text_scanWord_2 ..) ?_ | refine XV.via (kx_l_Text_scanWord_2 ..) ?_ | assumption | exact KX.rf | refine KX.i rfl ?_ | refine KX.j rfl ?_ | refine KX.a rfl ?_ | refine KX.b rfl ?_ | refine KX.c rfl ?_)
set_option maxRecDepth 20000 in
theorem kx_f_Text_keyword_2 (g : G2) : XO  g (f_Text_keyword_2 g) := by
  unfold f_Text_keyword_2
  repeat' (with_reducible first | refine XO.ite ?_ ?_ | refine XO.bd ?_ (fun _ _ _ => ?_) | refine XO.bind ?_ (fun _ _ => ?_) | exact XO.no | refine XO.so ?_ | assumption | exact KX.rf | refine KX.i rfl ?_ | refine KX.j rfl ?_ | refine KX.a rfl ?_ | refine KX.b rfl ?_ | refine KX.c rfl ?_)
set_option maxRecDepth 20000 in
theorem kx_b_Text_advance_2_0 (L : Nat → Int → G2 → Option (Int × G2)) (i1 : Int) (g : G2) (hL : ∀ x0 x1 g, XO  g (L x0 x1 g)) : XO  g (b_Text_advance_2_0 L i1 g) := by
  unfold b_Text_advance_2_0
  repeat' (with_reducible first | refine XO.ite ?_ ?_ | refine XO.bd ?_ (fun _ _ _ => ?_) | refine XO.bind ?_ (fun _ _ => ?_) | exact XO.no | refine XO.so ?_ | refine XO.via (kx_f_Text_keyword_2 ..) ?_ | refine XV.via (kx_f_Text_keyword_2 ..) ?_ | refine XO.via (kx_f_Text_scanWord_2 ..) ?_ | refine XV.via (kx_f_Text_scanWord_2 ..) ?_ | refine XO.via (hL ..) ?_ | assumption | exact KX.rf | refine KX.i rfl ?_ | refine KX.j rfl ?_ | refine KX.a rfl ?_ | refine KX.b rfl ?_ | refine KX.c rfl ?_)
set_option maxRecDepth 20000 in
theorem kx_l_Text_advance_2 : ∀ (n : Nat) (x0 : Nat) (x1 : Int) (g : G2), XO  g (l_Text_advance_2 n x0 x1 g) := by
  intro n
  induction n with
  | zero => intros; exact XO.no
  | succ n ih =>
    intro x0 x1 g
    unfold l_Text_advance_2
    try dsimp only
    first | (split <;> (first  | exact kx_b_Text_advance_2_0 _ _ _ ih)) | (first  | exact kx_b_Text_advance_2_0 _ _ _ ih)
set_option maxRecDepth 20000 in
theorem kx_f_Text_advance_2 (g : G2) : XO  g (f_Text_advance_2 g) := by
  unfold f_Text_advance_2
  repeat' (with_reducible first | refine XO.ite ?_ ?_ | refine XO.bd ?_ (fun _ _ _ => ?_) | refine XO.bind ?_ (fun _ _ => ?_) | exact XO.no | refine XO.so ?_ | refine XO.via (kx_l_Text_advance_2 ..) ?_ | refine XV.via (kx_l_Text_advance_2 ..) ?_ | assumption | exact KX.rf | refine KX.i rfl ?_ | refine KX.j rfl ?_ | refine KX.a rfl ?_ | refine KX.b rfl ?_ | refine KX.c rfl ?_)
set_option maxRecDepth 20000 in
theorem kx_f_Reader_isInside_26 (g : G2) : XO  g (f_Reader_isInside_26 g) := by
  unfold f_Reader_isInside_26
  repeat' (with_reducible first | refine XO.ite ?_ ?_ | refine XO.bd ?_ (fun _ _ _ => ?_) | refine XO.bind ?_ (fun _ _ => ?_) | exact XO.no | refine XO.so ?_ | assumption | exact KX.rf | refine KX.i rfl ?_ | refine KX.j rfl ?_ | refine KX.a rfl ?_ | refine KX.b rfl ?_ | refine KX.c rfl ?_)
set_option maxRecDepth 20000 in
theorem kx_f_Text_isTooLong_2 (g : G2) : XO  g (f_Text_isTooLong_2 g) := by
  unfold f_Text_isTooLong_2
  repeat' (with_reducible first | refine XO.ite ?_ ?_ | refine XO.bd ?_ (fun _ _ _ => ?_) | refine XO.bind ?_ (fun _ _ => ?_) | exact XO.no | refine XO.so ?_ | assumption | exact KX.rf | refine KX.i rfl ?_ | refine KX.j rfl ?_ | refine KX.a rfl ?_ | refine KX.b rfl ?_ | refine KX.c rfl ?_)
set_option maxRecDepth 20000 in
theorem kx_b_Names_find_4_0 (L : Nat → Int64 → Int → G2 → Option (Int × G2)) (l1 : Int64) (i3 : Int) (g : G2) (hL : ∀ x0 x1 x2 g, XO  g (L x0 x1 x2 g)) : XO  g (b_Names_find_4_0 L l1 i3 g) := by
  unfold b_Names_find_4_0
  repeat' (with_reducible first | refine XO.ite ?_ ?_ | refine XO.bd ?_ (fun _ _ _ => ?_) | refine XO.bind ?_ (fun _ _ => ?_) | exact XO.no | refine XO.so ?_ | refine XO.via (hL ..) ?_ | assumption | exact KX.rf | refine KX.i rfl ?_ | refine KX.j rfl ?_ | refine KX.a rfl ?_ | refine KX.b rfl ?_ | refine KX.c rfl ?_)
set_option maxRecDepth 20000 in
theorem kx_l_Names_find_4 : ∀ (n : Nat) (x0 : Nat) (x1 : Int64) (x2 : Int) (g : G2), XO  g (l_Names_find_4 n x0 x1 x2 g) := by
  intro n
  induction n with
  | zero => intros; exact XO.no
  | succ n ih =>
    intro x0 x1 x2 g
    unfold l_Names_find_4
    try dsimp only
    first | (split <;> (first  | exact kx_b_Names_find_4_0 _ _ _ _ ih)) | (first  | exact kx_b_Names_find_4_0 _ _ _ _ ih)
set_option maxRecDepth 20000 in
theorem kx_f_Names_find_4 (a1 : Int64) (g : G2) : XO  g (f_Names_find_4 a1 g) := by
  unfold f_Names_find_4
  repeat' (with_reducible first | refine XO.ite ?_ ?_ | refine XO.bd ?_ (fun _ _ _ => ?_) | refine XO.bind ?_ (fun _ _ => ?_) | exact XO.no | refine XO.so ?_ | refine XO.via (kx_l_Names_find_4 ..) ?_ | refine XV.via (kx_l_Names_find_4 ..) ?_ | assumption | exact KX.rf | refine KX.i rfl ?_ | refine KX.j rfl ?_ | refine KX.a rfl ?_ | refine KX.b rfl ?_ | refine KX.c rfl ?_)
set_option maxRecDepth 20000 in
theorem kx_f_Names_isFull_4 (g : G2) : XO  g (f_Names_isFull_4 g) := by
  unfold f_Names_isFull_4
  repeat' (with_reducible first | refine XO.ite ?_ ?_ | refine XO.bd ?_ (fun _ _ _ => ?_) | refine XO.bind ?_ (fun _ _ => ?_) | exact XO.no | refine XO.so ?_ | assumption | exact KX.rf | refine KX.i rfl ?_ | refine KX.j rfl ?_ | refine KX.a rfl ?_ | refine KX.b rfl ?_ | refine KX.c rfl ?_)
set_option maxRecDepth 20000 in
theorem kx_f_Expressions_isFull_11 (g : G2) : XO  g (f_Expressions_isFull_11 g) := by
  unfold f_Expressions_isFull_11
  repeat' (with_reducible first | refine XO.ite ?_ ?_ | refine XO.bd ?_ (fun _ _ _ => ?_) | refine XO.bind ?_ (fun _ _ => ?_) | exact XO.no | refine XO.so ?_ | assumption | exact KX.rf | refine KX.i rfl ?_ | refine KX.j rfl ?_ | refine KX.a rfl ?_ | refine KX.b rfl ?_ | refine KX.c rfl ?_)
set_option maxRecDepth 20000 in
theorem kx_f_Expressions_startRow_11 (g : G2) : XV  g (f_Expressions_startRow_11 g) := by
  unfold f_Expressions_startRow_11
  repeat' (with_reducible first | refine XV.ite ?_ ?_ | refine XV.bd ?_ (fun _ _ _ => ?_) | refine XV.bind ?_ (fun _ _ => ?_) | exact XV.no | refine XV.so ?_ | assumption | exact KX.rf | refine KX.i rfl ?_ | refine KX.j rfl ?_ | refine KX.a rfl ?_ | refine KX.b rfl ?_ | refine KX.c rfl ?_)
set_option maxRecDepth 20000 in
theorem kx_f_Statements_start_8 (a1 : Int64) (g : G2) : XV  g (f_Statements_start_8 a1 g) := by
  unfold f_Statements_start_8
  repeat' (with_reducible first | refine XV.ite ?_ ?_ | refine XV.bd ?_ (fun _ _ _ => ?_) | refine XV.bind ?_ (fun _ _ => ?_) | exact XV.no | refine XV.so ?_ | refine XO.via (kx_f_Expressions_startRow_11 ..) ?_ | refine XV.via (kx_f_Expressions_startRow_11 ..) ?_ | assumption | exact KX.rf | refine KX.i rfl ?_ | refine KX.j rfl ?_ | refine KX.a rfl ?_ | refine KX.b rfl ?_ | refine KX.c rfl ?_)
set_option maxRecDepth 20000 in
theorem kx_f_Reader_takeLabel_26 (a1 : Int64) (g : G2) : XO  g (f_Reader_takeLabel_26 a1 g) := by
  unfold f_Reader_takeLabel_26
  repeat' (with_reducible first | refine XO.ite ?_ ?_ | refine XO.bd ?_ (fun _ _ _ => ?_) | refine XO.bind ?_ (fun _ _ => ?_) | exact XO.no | refine XO.so ?_ | refine XO.via (kx_f_Expressions_isFull_11 ..) ?_ | refine XV.via (kx_f_Expressions_isFull_11 ..) ?_ | refine XO.via (kx_f_Names_find_4 ..) ?_ | refine XV.via (kx_f_Names_find_4 ..) ?_ | refine XO.via (kx_f_Names_isFull_4 ..) ?_ | refine XV.via (kx_f_Names_isFull_4 ..) ?_ | refine XO.via (kx_f_Statements_start_8 ..) ?_ | refine XV.via (kx_f_Statements_start_8 ..) ?_ | assumption | exact KX.rf | refine KX.i rfl ?_ | refine KX.j rfl ?_ | refine KX.a rfl ?_ | refine KX.b rfl ?_ | refine KX.c rfl ?_)
set_option maxRecDepth 20000 in
theorem kx_f_Names_add_4 (a1 : Int64) (a3 : Int) (g : G2) : XO  g (f_Names_add_4 a1 a3 g) := by
  unfold f_Names_add_4
  repeat' (with_reducible first | refine XO.ite ?_ ?_ | refine XO.bd ?_ (fun _ _ _ => ?_) | refine XO.bind ?_ (fun _ _ => ?_) | exact XO.no | refine XO.so ?_ | assumption | exact KX.rf | refine KX.i rfl ?_ | refine KX.j rfl ?_ | refine KX.a rfl ?_ | refine KX.b rfl ?_ | refine KX.c rfl ?_)
set_option maxRecDepth 20000 in
theorem kx_f_Reader_declareConstant_26 (a1 : Int64) (g : G2) : XO  g (f_Reader_declareConstant_26 a1 g) := by
  unfold f_Reader_declareConstant_26
  repeat' (with_reducible first | refine XO.ite ?_ ?_ | refine XO.bd ?_ (fun _ _ _ => ?_) | refine XO.bind ?_ (fun _ _ => ?_) | exact XO.no | refine XO.so ?_ | refine XO.via (kx_f_Names_add_4 ..) ?_ | refine XV.via (kx_f_Names_add_4 ..) ?_ | refine XO.via (kx_f_Names_find_4 ..) ?_ | refine XV.via (kx_f_Names_find_4 ..) ?_ | refine XO.via (kx_f_Names_isFull_4 ..) ?_ | refine XV.via (kx_f_Names_isFull_4 ..) ?_ | assumption | exact KX.rf | refine KX.i rfl ?_ | refine KX.j rfl ?_ | refine KX.a rfl ?_ | refine KX.b rfl ?_ | refine KX.c rfl ?_)
set_option maxRecDepth 20000 in
theorem kx_f_Reader_isActive_26 (a1 : Int) (g : G2) : XO  g (f_Reader_isActive_26 a1 g) := by
  unfold f_Reader_isActive_26
  repeat' (with_reducible first | refine XO.ite ?_ ?_ | refine XO.bd ?_ (fun _ _ _ => ?_) | refine XO.bind ?_ (fun _ _ => ?_) | exact XO.no | refine XO.so ?_ | assumption | exact KX.rf | refine KX.i rfl ?_ | refine KX.j rfl ?_ | refine KX.a rfl ?_ | refine KX.b rfl ?_ | refine KX.c rfl ?_)
set_option maxRecDepth 20000 in
theorem kx_f_Reader_declareVariable_26 (a1 : Int64) (g : G2) : XO  g (f_Reader_declareVariable_26 a1 g) := by
  unfold f_Reader_declareVariable_26
  repeat' (with_reducible first | refine XO.ite ?_ ?_ | refine XO.bd ?_ (fun _ _ _ => ?_) | refine XO.bind ?_ (fun _ _ => ?_) | exact XO.no | refine XO.so ?_ | refine XO.via (kx_f_Names_add_4 ..) ?_ | refine XV.via (kx_f_Names_add_4 ..) ?_ | refine XO.via (kx_f_Names_find_4 ..) ?_ | refine XV.via (kx_f_Names_find_4 ..) ?_ | refine XO.via (kx_f_Names_isFull_4 ..) ?_ | refine XV.via (kx_f_Names_isFull_4 ..) ?_ | refine XO.via (kx_f_Reader_isActive_26 ..) ?_ | refine XV.via (kx_f_Reader_isActive_26 ..) ?_ | assumption | exact KX.rf | refine KX.i rfl ?_ | refine KX.j rfl ?_ | refine KX.a rfl ?_ | refine KX.b rfl ?_ | refine KX.c rfl ?_)
set_option maxRecDepth 20000 in
theorem kx_f_Reader_meaningOf_26 (a1 : Int) (g : G2) : XO  g (f_Reader_meaningOf_26 a1 g) := by
  unfold f_Reader_meaningOf_26
  repeat' (with_reducible first | refine XO.ite ?_ ?_ | refine XO.bd ?_ (fun _ _ _ => ?_) | refine XO.bind ?_ (fun _ _ => ?_) | exact XO.no | refine XO.so ?_ | refine XO.via (kx_f_Reader_isActive_26 ..) ?_ | refine XV.via (kx_f_Reader_isActive_26 ..) ?_ | assumption | exact KX.rf | refine KX.i rfl ?_ | refine KX.j rfl ?_ | refine KX.a rfl ?_ | refine KX.b rfl ?_ | refine KX.c rfl ?_)
set_option maxRecDepth 20000 in
theorem kx_b_Reader_takeApart_26_0 (L : Nat → Int → Int → G2 → Option (Int × G2)) (i1 : Int) (i3 : Int) (g : G2) (hL : ∀ x0 x1 x2 g, XO  g (L x0 x1 x2 g)) : XO  g (b_Reader_takeApart_26_0 L i1 i3 g) := by
  unfold b_Reader_takeApart_26_0
  repeat' (with_reducible first | refine XO.ite ?_ ?_ | refine XO.bd ?_ (fun _ _ _ => ?_) | refine XO.bind ?_ (fun _ _ => ?_) | exact XO.no | refine XO.so ?_ | refine XO.via (kx_f_Context_addPair_27 ..) ?_ | refine XV.via (kx_f_Context_addPair_27 ..) ?_ | refine XO.via (hL ..) ?_ | assumption | exact KX.rf | refine KX.i rfl ?_ | refine KX.j rfl ?_ | refine KX.a rfl ?_ | refine KX.b rfl ?_ | refine KX.c rfl ?_)
set_option maxRecDepth 20000 in
theorem kx_l_Reader_takeApart_26 : ∀ (n : Nat) (x0 : Nat) (x1 : Int) (x2 : Int) (g : G2), XO  g (l_Reader_takeApart_26 n x0 x1 x2 g) := by
  intro n
  induction n with
  | zero => intros; exact XO.no
  | succ n ih =>
    intro x0 x1 x2 g
    unfold l_Reader_takeApart_26
    try dsimp only
    first | (split <;> (first  | exact kx_b_Reader_takeApart_26_0 _ _ _ _ ih)) | (first  | exact kx_b_Reader_takeApart_26_0 _ _ _ _ ih)
set_option maxRecDepth 20000 in
theorem kx_f_Reader_takeApart_26 (a1 : Int) (g : G2) : XO  g (f_Reader_takeApart_26 a1 g) := by
  unfold f_Reader_takeApart_26
  repeat' (with_reducible first | refine XO.ite ?_ ?_ | refine XO.bd ?_ (fun _ _ _ => ?_) | refine XO.bind ?_ (fun _ _ => ?_) | exact XO.no | refine XO.so ?_ | refine XO.via (kx_f_Reader_meaningOf_26 ..) ?_ | refine XV.via (kx_f_Reader_meaningOf_26 ..) ?_ | refine XO.via (kx_l_Reader_takeApart_26 ..) ?_ | refine XV.via (kx_l_Reader_takeApart_26 ..) ?_ | assumption | exact KX.rf | refine KX.i rfl ?_ | refine KX.j rfl ?_ | refine KX.a rfl ?_ | refine KX.b rfl ?_ | refine KX.c rfl ?_)
set_option maxRecDepth 20000 in
theorem kx_f_Expressions_append_11 (a1 : Int) (a2 : Int) (g : G2) : XV  g (f_Expressions_append_11 a1 a2 g) := by
  unfold f_Expressions_append_11
  repeat' (with_reducible first | refine XV.ite ?_ ?_ | refine XV.bd ?_ (fun _ _ _ => ?_) | refine XV.bind ?_ (fun _ _ => ?_) | exact XV.no | refine XV.so ?_ | assumption | exact KX.rf | refine KX.i rfl ?_ | refine KX.j rfl ?_ | refine KX.a rfl ?_ | refine KX.b rfl ?_ | refine KX.c rfl ?_)
set_option maxRecDepth 20000 in
theorem kx_f_Reader_takeType_26 (a1 : Int) (g : G2) : XO  g (f_Reader_takeType_26 a1 g) := by
  unfold f_Reader_takeType_26
  repeat' (with_reducible first | refine XO.ite ?_ ?_ | refine XO.bd ?_ (fun _ _ _ => ?_) | refine XO.bind ?_ (fun _ _ => ?_) | exact XO.no | refine XO.so ?_ | refine XO.via (kx_f_Expressions_append_11 ..) ?_ | refine XV.via (kx_f_Expressions_append_11 ..) ?_ | refine XO.via (kx_f_Reader_meaningOf_26 ..) ?_ | refine XV.via (kx_f_Reader_meaningOf_26 ..) ?_ | assumption | exact KX.rf | refine KX.i rfl ?_ | refine KX.j rfl ?_ | refine KX.a rfl ?_ | refine KX.b rfl ?_ | refine KX.c rfl ?_)
set_option maxRecDepth 20000 in
theorem kx_f_Reader_isTyped_26 (a1 : Int) (g : G2) : XO  g (f_Reader_isTyped_26 a1 g) := by
  unfold f_Reader_isTyped_26
  repeat' (with_reducible first | refine XO.ite ?_ ?_ | refine XO.bd ?_ (fun _ _ _ => ?_) | refine XO.bind ?_ (fun _ _ => ?_) | exact XO.no | refine XO.so ?_ | assumption | exact KX.rf | refine KX.i rfl ?_ | refine KX.j rfl ?_ | refine KX.a rfl ?_ | refine KX.b rfl ?_ | refine KX.c rfl ?_)
set_option maxRecDepth 20000 in
theorem kx_f_Reader_takeFloating_26 (a1 : Int) (g : G2) : XO  g (f_Reader_takeFloating_26 a1 g) := by
  unfold f_Reader_takeFloating_26
  repeat' (with_reducible first | refine XO.ite ?_ ?_ | refine XO.bd ?_ (fun _ _ _ => ?_) | refine XO.bind ?_ (fun _ _ => ?_) | exact XO.no | refine XO.so ?_ | refine XO.via (kx_f_Expressions_append_11 ..) ?_ | refine XV.via (kx_f_Expressions_append_11 ..) ?_ | refine XO.via (kx_f_Reader_isTyped_26 ..) ?_ | refine XV.via (kx_f_Reader_isTyped_26 ..) ?_ | refine XO.via (kx_f_Reader_meaningOf_26 ..) ?_ | refine XV.via (kx_f_Reader_meaningOf_26 ..) ?_ | assumption | exact KX.rf | refine KX.i rfl ?_ | refine KX.j rfl ?_ | refine KX.a rfl ?_ | refine KX.b rfl ?_ | refine KX.c rfl ?_)
set_option maxRecDepth 20000 in
theorem kx_f_Expressions_rowHasRoom_11 (a1 : Int) (g : G2) : XO  g (f_Expressions_rowHasRoom_11 a1 g) := by
  unfold f_Expressions_rowHasRoom_11
  repeat' (with_reducible first | refine XO.ite ?_ ?_ | refine XO.bd ?_ (fun _ _ _ => ?_) | refine XO.bind ?_ (fun _ _ => ?_) | exact XO.no | refine XO.so ?_ | assumption | exact KX.rf | refine KX.i rfl ?_ | refine KX.j rfl ?_ | refine KX.a rfl ?_ | refine KX.b rfl ?_ | refine KX.c rfl ?_)
set_option maxRecDepth 20000 in
theorem kx_f_Reader_takeSymbol_26 (a1 : Int) (g : G2) : XO  g (f_Reader_takeSymbol_26 a1 g) := by
  unfold f_Reader_takeSymbol_26
  repeat' (with_reducible first | refine XO.ite ?_ ?_ | refine XO.bd ?_ (fun _ _ _ => ?_) | refine XO.bind ?_ (fun _ _ => ?_) | exact XO.no | refine XO.so ?_ | refine XO.via (kx_f_Expressions_append_11 ..) ?_ | refine XV.via (kx_f_Expressions_append_11 ..) ?_ | refine XO.via (kx_f_Expressions_rowHasRoom_11 ..) ?_ | refine XV.via (kx_f_Expressions_rowHasRoom_11 ..) ?_ | refine XO.via (kx_f_Reader_isTyped_26 ..) ?_ | refine XV.via (kx_f_Reader_isTyped_26 ..) ?_ | refine XO.via (kx_f_Reader_meaningOf_26 ..) ?_ | refine XV.via (kx_f_Reader_meaningOf_26 ..) ?_ | assumption | exact KX.rf | refine KX.i rfl ?_ | refine KX.j rfl ?_ | refine KX.a rfl ?_ | refine KX.b rfl ?_ | refine KX.c rfl ?_)
set_option maxRecDepth 20000 in
theorem kx_f_Statements_isMandatory_8 (a1 : Int) (a2 : Int) (g : G2) : XO  g (f_Statements_isMandatory_8 a1 a2 g) := by
  unfold f_Statements_isMandatory_8
  repeat' (with_reducible first | refine XO.ite ?_ ?_ | refine XO.bd ?_ (fun _ _ _ => ?_) | refine XO.bind ?_ (fun _ _ => ?_) | exact XO.no | refine XO.so ?_ | assumption | exact KX.rf | refine KX.i rfl ?_ | refine KX.j rfl ?_ | refine KX.a rfl ?_ | refine KX.b rfl ?_ | refine KX.c rfl ?_)
set_option maxRecDepth 20000 in
theorem kx_b_Letters_begin_44_0 (L : Nat → Int → Int → G2 → Option (G2)) (i1 : Int) (i2 : Int) (g : G2) (hL : ∀ x0 x1 x2 g, XV  g (L x0 x1 x2 g)) : XV  g (b_Letters_begin_44_0 L i1 i2 g) := by
  unfold b_Letters_begin_44_0
  repeat' (with_reducible first | refine XV.ite ?_ ?_ | refine XV.bd ?_ (fun _ _ _ => ?_) | refine XV.bind ?_ (fun _ _ => ?_) | exact XV.no | refine XV.so ?_ | refine XO.via (kx_f_Statements_isMandatory_8 ..) ?_ | refine XV.via (kx_f_Statements_isMandatory_8 ..) ?_ | refine XV.via (hL ..) ?_ | assumption | exact KX.rf | refine KX.i rfl ?_ | refine KX.j rfl ?_ | refine KX.a rfl ?_ | refine KX.b rfl ?_ | refine KX.c rfl ?_)
set_option maxRecDepth 20000 in
theorem kx_l_Letters_begin_44 : ∀ (n : Nat) (x0 : Nat) (x1 : Int) (x2 : Int) (g : G2), XV  g (l_Letters_begin_44 n x0 x1 x2 g) := by
  intro n
  induction n with
  | zero => intros; exact XV.no
  | succ n ih =>
    intro x0 x1 x2 g
    unfold l_Letters_begin_44
    try dsimp only
    first | (split <;> (first  | exact kx_b_Letters_begin_44_0 _ _ _ _ ih)) | (first  | exact kx_b_Letters_begin_44_0 _ _ _ _ ih)
set_option maxRecDepth 20000 in
theorem kx_f_Letters_begin_44 (a1 : Int) (g : G2) : XV  g (f_Letters_begin_44 a1 g) := by
  unfold f_Letters_begin_44
  repeat' (with_reducible first | refine XV.ite ?_ ?_ | refine XV.bd ?_ (fun _ _ _ => ?_) | refine XV.bind ?_ (fun _ _ => ?_) | exact XV.no | refine XV.so ?_ | refine XO.via (kx_l_Letters_begin_44 ..) ?_ | refine XV.via (kx_l_Letters_begin_44 ..) ?_ | assumption | exact KX.rf | refine KX.i rfl ?_ | refine KX.j rfl ?_ | refine KX.a rfl ?_ | refine KX.b rfl ?_ | refine KX.c rfl ?_)
set_option maxRecDepth 20000 in
theorem kx_f_Assertions_noteGap_17 (g : G2) : XV  g (f_Assertions_noteGap_17 g) := by
  unfold f_Assertions_noteGap_17
  repeat' (with_reducible first | refine XV.ite ?_ ?_ | refine XV.bd ?_ (fun _ _ _ => ?_) | refine XV.bind ?_ (fun _ _ => ?_) | exact XV.no | refine XV.so ?_ | assumption | exact KX.rf | refine KX.i rfl ?_ | refine KX.j rfl ?_ | refine KX.a rfl ?_ | refine KX.b rfl ?_ | refine KX.c rfl ?_)
set_option maxRecDepth 20000 in
theorem kx_f_Proof_leaveGap_34 (g : G2) : XV  g (f_Proof_leaveGap_34 g) := by
  unfold f_Proof_leaveGap_34
  repeat' (with_reducible first | refine XV.ite ?_ ?_ | refine XV.bd ?_ (fun _ _ _ => ?_) | refine XV.bind ?_ (fun _ _ => ?_) | exact XV.no | refine XV.so ?_ | refine XO.via (kx_f_Assertions_noteGap_17 ..) ?_ | refine XV.via (kx_f_Assertions_noteGap_17 ..) ?_ | assumption | exact KX.rf | refine KX.i rfl ?_ | refine KX.j rfl ?_ | refine KX.a rfl ?_ | refine KX.b rfl ?_ | refine KX.c rfl ?_)
set_option maxRecDepth 20000 in
theorem kx_f_Statements_isHypothesis_8 (a1 : Int) (g : G2) : XO  g (f_Statements_isHypothesis_8 a1 g) := by
  unfold f_Statements_isHypothesis_8
  repeat' (with_reducible first | refine XO.ite ?_ ?_ | refine XO.bd ?_ (fun _ _ _ => ?_) | refine XO.bind ?_ (fun _ _ => ?_) | exact XO.no | refine XO.so ?_ | assumption | exact KX.rf | refine KX.i rfl ?_ | refine KX.j rfl ?_ | refine KX.a rfl ?_ | refine KX.b rfl ?_ | refine KX.c rfl ?_)
set_option maxRecDepth 20000 in
theorem kx_f_Reader_isActiveHypothesis_26 (a1 : Int) (g : G2) : XO  g (f_Reader_isActiveHypothesis_26 a1 g) := by
  unfold f_Reader_isActiveHypothesis_26
  repeat' (with_reducible first | refine XO.ite ?_ ?_ | refine XO.bd ?_ (fun _ _ _ => ?_) | refine XO.bind ?_ (fun _ _ => ?_) | exact XO.no | refine XO.so ?_ | assumption | exact KX.rf | refine KX.i rfl ?_ | refine KX.j rfl ?_ | refine KX.a rfl ?_ | refine KX.b rfl ?_ | refine KX.c rfl ?_)
set_option maxRecDepth 20000 in
theorem kx_f_Reader_findUsable_26 (a1 : Int64) (g : G2) : XO  g (f_Reader_findUsable_26 a1 g) := by
  unfold f_Reader_findUsable_26
  repeat' (with_reducible first | refine XO.ite ?_ ?_ | refine XO.bd ?_ (fun _ _ _ => ?_) | refine XO.bind ?_ (fun _ _ => ?_) | exact XO.no | refine XO.so ?_ | refine XO.via (kx_f_Names_find_4 ..) ?_ | refine XV.via (kx_f_Names_find_4 ..) ?_ | refine XO.via (kx_f_Reader_isActiveHypothesis_26 ..) ?_ | refine XV.via (kx_f_Reader_isActiveHypothesis_26 ..) ?_ | refine XO.via (kx_f_Statements_isHypothesis_8 ..) ?_ | refine XV.via (kx_f_Statements_isHypothesis_8 ..) ?_ | assumption | exact KX.rf | refine KX.i rfl ?_ | refine KX.j rfl ?_ | refine KX.a rfl ?_ | refine KX.b rfl ?_ | refine KX.c rfl ?_)
set_option maxRecDepth 20000 in
theorem kx_f_J_bitCount (a0 : Int64) (g : G2) : XO  g (f_J_bitCount a0 g) := by
  unfold f_J_bitCount
  repeat' (with_reducible first | refine XO.ite ?_ ?_ | refine XO.bd ?_ (fun _ _ _ => ?_) | refine XO.bind ?_ (fun _ _ => ?_) | exact XO.no | refine XO.so ?_ | assumption | exact KX.rf | refine KX.i rfl ?_ | refine KX.j rfl ?_ | refine KX.a rfl ?_ | refine KX.b rfl ?_ | refine KX.c rfl ?_)
set_option maxRecDepth 20000 in
theorem kx_f_Expressions_symbolAt_35 (a1 : Int) (a2 : Int) (g : G2) : XO  g (f_Expressions_symbolAt_35 a1 a2 g) := by
  unfold f_Expressions_symbolAt_35
  repeat' (with_reducible first | refine XO.ite ?_ ?_ | refine XO.bd ?_ (fun _ _ _ => ?_) | refine XO.bind ?_ (fun _ _ => ?_) | exact XO.no | refine XO.so ?_ | assumption | exact KX.rf | refine KX.i rfl ?_ | refine KX.j rfl ?_ | refine KX.a rfl ?_ | refine KX.b rfl ?_ | refine KX.c rfl ?_)
set_option maxRecDepth 20000 in
theorem kx_f_Expressions_symbolAt_11 (a1 : Int) (a2 : Int) (g : G2) : XO  g (f_Expressions_symbolAt_11 a1 a2 g) := by
  unfold f_Expressions_symbolAt_11
  repeat' (with_reducible first | refine XO.ite ?_ ?_ | refine XO.bd ?_ (fun _ _ _ => ?_) | refine XO.bind ?_ (fun _ _ => ?_) | exact XO.no | refine XO.so ?_ | assumption | exact KX.rf | refine KX.i rfl ?_ | refine KX.j rfl ?_ | refine KX.a rfl ?_ | refine KX.b rfl ?_ | refine KX.c rfl ?_)
set_option maxRecDepth 20000 in
theorem kx_f_Expressions_startRow_39 (g : G2) : XV  g (f_Expressions_startRow_39 g) := by
  unfold f_Expressions_startRow_39
  repeat' (with_reducible first | refine XV.ite ?_ ?_ | refine XV.bd ?_ (fun _ _ _ => ?_) | refine XV.bind ?_ (fun _ _ => ?_) | exact XV.no | refine XV.so ?_ | assumption | exact KX.rf | refine KX.i rfl ?_ | refine KX.j rfl ?_ | refine KX.a rfl ?_ | refine KX.b rfl ?_ | refine KX.c rfl ?_)
set_option maxRecDepth 20000 in
theorem kx_f_Expressions_rowHasRoom_39 (a1 : Int) (g : G2) : XO  g (f_Expressions_rowHasRoom_39 a1 g) := by
  unfold f_Expressions_rowHasRoom_39
  repeat' (with_reducible first | refine XO.ite ?_ ?_ | refine XO.bd ?_ (fun _ _ _ => ?_) | refine XO.bind ?_ (fun _ _ => ?_) | exact XO.no | refine XO.so ?_ | assumption | exact KX.rf | refine KX.i rfl ?_ | refine KX.j rfl ?_ | refine KX.a rfl ?_ | refine KX.b rfl ?_ | refine KX.c rfl ?_)
set_option maxRecDepth 20000 in
theorem kx_b_Expressions_appendBody_39_35_0 (L : Nat → Int → Int → G2 → Option (G2)) (i2 : Int) (i3 : Int) (g : G2) (hL : ∀ x0 x1 x2 g, XV  g (L x0 x1 x2 g)) : XV  g (b_Expressions_appendBody_39_35_0 L i2 i3 g) := by
  unfold b_Expressions_appendBody_39_35_0
  repeat' (with_reducible first | refine XV.ite ?_ ?_ | refine XV.bd ?_ (fun _ _ _ => ?_) | refine XV.bind ?_ (fun _ _ => ?_) | exact XV.no | refine XV.so ?_ | refine XV.via (hL ..) ?_ | assumption | exact KX.rf | refine KX.i rfl ?_ | refine KX.j rfl ?_ | refine KX.a rfl ?_ | refine KX.b rfl ?_ | refine KX.c rfl ?_)
set_option maxRecDepth 20000 in
theorem kx_l_Expressions_appendBody_39_35 : ∀ (n : Nat) (x0 : Nat) (x1 : Int) (x2 : Int) (g : G2), XV  g (l_Expressions_appendBody_39_35 n x0 x1 x2 g) := by
  intro n
  induction n with
  | zero => intros; exact XV.no
  | succ n ih =>
    intro x0 x1 x2 g
    unfold l_Expressions_appendBody_39_35
    try dsimp only
    first | (split <;> (first  | exact kx_b_Expressions_appendBody_39_35_0 _ _ _ _ ih)) | (first  | exact kx_b_Expressions_appendBody_39_35_0 _ _ _ _ ih)
set_option maxRecDepth 20000 in
theorem kx_f_Expressions_appendBody_39_35 (a2 : Int) (g : G2) : XV  g (f_Expressions_appendBody_39_35 a2 g) := by
  unfold f_Expressions_appendBody_39_35
  repeat' (with_reducible first | refine XV.ite ?_ ?_ | refine XV.bd ?_ (fun _ _ _ => ?_) | refine XV.bind ?_ (fun _ _ => ?_) | exact XV.no | refine XV.so ?_ | refine XO.via (kx_l_Expressions_appendBody_39_35 ..) ?_ | refine XV.via (kx_l_Expressions_appendBody_39_35 ..) ?_ | assumption | exact KX.rf | refine KX.i rfl ?_ | refine KX.j rfl ?_ | refine KX.a rfl ?_ | refine KX.b rfl ?_ | refine KX.c rfl ?_)
set_option maxRecDepth 20000 in
theorem kx_f_Expressions_append_39 (a1 : Int) (a2 : Int) (g : G2) : XV  g (f_Expressions_append_39 a1 a2 g) := by
  unfold f_Expressions_append_39
  repeat' (with_reducible first | refine XV.ite ?_ ?_ | refine XV.bd ?_ (fun _ _ _ => ?_) | refine XV.bind ?_ (fun _ _ => ?_) | exact XV.no | refine XV.so ?_ | assumption | exact KX.rf | refine KX.i rfl ?_ | refine KX.j rfl ?_ | refine KX.a rfl ?_ | refine KX.b rfl ?_ | refine KX.c rfl ?_)
set_option maxRecDepth 20000 in
theorem kx_b_Proof_replaceIn_34_0 (L : Nat → Int → Int → G2 → Option (Int × G2)) (i1 : Int) (i3 : Int) (g : G2) (hL : ∀ x0 x1 x2 g, XO  g (L x0 x1 x2 g)) : XO  g (b_Proof_replaceIn_34_0 L i1 i3 g) := by
  unfold b_Proof_replaceIn_34_0
  repeat' (with_reducible first | refine XO.ite ?_ ?_ | refine XO.bd ?_ (fun _ _ _ => ?_) | refine XO.bind ?_ (fun _ _ => ?_) | exact XO.no | refine XO.so ?_ | refine XO.via (kx_f_Expressions_appendBody_39_35 ..) ?_ | refine XV.via (kx_f_Expressions_appendBody_39_35 ..) ?_ | refine XO.via (kx_f_Expressions_append_39 ..) ?_ | refine XV.via (kx_f_Expressions_append_39 ..) ?_ | refine XO.via (kx_f_Expressions_rowHasRoom_39 ..) ?_ | refine XV.via (kx_f_Expressions_rowHasRoom_39 ..) ?_ | refine XO.via (kx_f_Expressions_symbolAt_11 ..) ?_ | refine XV.via (kx_f_Expressions_symbolAt_11 ..) ?_ | refine XO.via (hL ..) ?_ | assumption | exact KX.rf | refine KX.i rfl ?_ | refine KX.j rfl ?_ | refine KX.a rfl ?_ | refine KX.b rfl ?_ | refine KX.c rfl ?_)
set_option maxRecDepth 20000 in
theorem kx_l_Proof_replaceIn_34 : ∀ (n : Nat) (x0 : Nat) (x1 : Int) (x2 : Int) (g : G2), XO  g (l_Proof_replaceIn_34 n x0 x1 x2 g) := by
  intro n
  induction n with
  | zero => intros; exact XO.no
  | succ n ih =>
    intro x0 x1 x2 g
    unfold l_Proof_replaceIn_34
    try dsimp only
    first | (split <;> (first  | exact kx_b_Proof_replaceIn_34_0 _ _ _ _ ih)) | (first  | exact kx_b_Proof_replaceIn_34_0 _ _ _ _ ih)
set_option maxRecDepth 20000 in
theorem kx_f_Proof_replaceIn_34 (a1 : Int) (g : G2) : XO  g (f_Proof_replaceIn_34 a1 g) := by
  unfold f_Proof_replaceIn_34
  repeat' (with_reducible first | refine XO.ite ?_ ?_ | refine XO.bd ?_ (fun _ _ _ => ?_) | refine XO.bind ?_ (fun _ _ => ?_) | exact XO.no | refine XO.so ?_ | refine XO.via (kx_f_Expressions_startRow_39 ..) ?_ | refine XV.via (kx_f_Expressions_startRow_39 ..) ?_ | refine XO.via (kx_l_Proof_replaceIn_34 ..) ?_ | refine XV.via (kx_l_Proof_replaceIn_34 ..) ?_ | assumption | exact KX.rf | refine KX.i rfl ?_ | refine KX.j rfl ?_ | refine KX.a rfl ?_ | refine KX.b rfl ?_ | refine KX.c rfl ?_)
set_option maxRecDepth 20000 in
theorem kx_b_Expressions_isSame_35_39_0 (L : Nat → Int → Int → Int → G2 → Option (Int × G2)) (i1 : Int) (i3 : Int) (i4 : Int) (g : G2) (hL : ∀ x0 x1 x2 x3 g, XO  g (L x0 x1 x2 x3 g)) : XO  g (b_Expressions_isSame_35_39_0 L i1 i3 i4 g) := by
  unfold b_Expressions_isSame_35_39_0
  repeat' (with_reducible first | refine XO.ite ?_ ?_ | refine XO.bd ?_ (fun _ _ _ => ?_) | refine XO.bind ?_ (fun _ _ => ?_) | exact XO.no | refine XO.so ?_ | refine XO.via (hL ..) ?_ | assumption | exact KX.rf | refine KX.i rfl ?_ | refine KX.j rfl ?_ | refine KX.a rfl ?_ | refine KX.b rfl ?_ | refine KX.c rfl ?_)
set_option maxRecDepth 20000 in
theorem kx_l_Expressions_isSame_35_39 : ∀ (n : Nat) (x0 : Nat) (x1 : Int) (x2 : Int) (x3 : Int) (g : G2), XO  g (l_Expressions_isSame_35_39 n x0 x1 x2 x3 g) := by
  intro n
  induction n with
  | zero => intros; exact XO.no
  | succ n ih =>
    intro x0 x1 x2 x3 g
    unfold l_Expressions_isSame_35_39
    try dsimp only
    first | (split <;> (first  | exact kx_b_Expressions_isSame_35_39_0 _ _ _ _ _ ih)) | (first  | exact kx_b_Expressions_isSame_35_39_0 _ _ _ _ _ ih)
set_option maxRecDepth 20000 in
theorem kx_f_Expressions_isSame_35_39 (a1 : Int) (a3 : Int) (g : G2) : XO  g (f_Expressions_isSame_35_39 a1 a3 g) := by
  unfold f_Expressions_isSame_35_39
  repeat' (with_reducible first | refine XO.ite ?_ ?_ | refine XO.bd ?_ (fun _ _ _ => ?_) | refine XO.bind ?_ (fun _ _ => ?_) | exact XO.no | refine XO.so ?_ | refine XO.via (kx_l_Expressions_isSame_35_39 ..) ?_ | refine XV.via (kx_l_Expressions_isSame_35_39 ..) ?_ | assumption | exact KX.rf | refine KX.i rfl ?_ | refine KX.j rfl ?_ | refine KX.a rfl ?_ | refine KX.b rfl ?_ | refine KX.c rfl ?_)
set_option maxRecDepth 20000 in
theorem kx_b_Proof_bind_34_0 (L : Nat → Int → Int → Int → G2 → Option (Int × G2)) (i1 : Int) (i4 : Int) (i5 : Int) (g : G2) (hL : ∀ x0 x1 x2 x3 g, XO  g (L x0 x1 x2 x3 g)) : XO  g (b_Proof_bind_34_0 L i1 i4 i5 g) := by
  unfold b_Proof_bind_34_0
  repeat' (with_reducible first | refine XO.ite ?_ ?_ | refine XO.bd ?_ (fun _ _ _ => ?_) | refine XO.bind ?_ (fun _ _ => ?_) | exact XO.no | refine XO.so ?_ | refine XO.via (kx_f_Expressions_isSame_35_39 ..) ?_ | refine XV.via (kx_f_Expressions_isSame_35_39 ..) ?_ | refine XO.via (kx_f_Expressions_symbolAt_11 ..) ?_ | refine XV.via (kx_f_Expressions_symbolAt_11 ..) ?_ | refine XO.via (kx_f_Expressions_symbolAt_35 ..) ?_ | refine XV.via (kx_f_Expressions_symbolAt_35 ..) ?_ | refine XO.via (kx_f_Proof_replaceIn_34 ..) ?_ | refine XV.via (kx_f_Proof_replaceIn_34 ..) ?_ | refine XO.via (kx_f_Statements_isMandatory_8 ..) ?_ | refine XV.via (kx_f_Statements_isMandatory_8 ..) ?_ | refine XO.via (hL ..) ?_ | assumption | exact KX.rf | refine KX.i rfl ?_ | refine KX.j rfl ?_ | refine KX.a rfl ?_ | refine KX.b rfl ?_ | refine KX.c rfl ?_)
set_option maxRecDepth 20000 in
theorem kx_l_Proof_bind_34 : ∀ (n : Nat) (x0 : Nat) (x1 : Int) (x2 : Int) (x3 : Int) (g : G2), XO  g (l_Proof_bind_34 n x0 x1 x2 x3 g) := by
  intro n
  induction n with
  | zero => intros; exact XO.no
  | succ n ih =>
    intro x0 x1 x2 x3 g
    unfold l_Proof_bind_34
    try dsimp only
    first | (split <;> (first  | exact kx_b_Proof_bind_34_0 _ _ _ _ _ ih)) | (first  | exact kx_b_Proof_bind_34_0 _ _ _ _ _ ih)
set_option maxRecDepth 20000 in
theorem kx_f_Proof_bind_34 (a1 : Int) (a2 : Int) (g : G2) : XO  g (f_Proof_bind_34 a1 a2 g) := by
  unfold f_Proof_bind_34
  repeat' (with_reducible first | refine XO.ite ?_ ?_ | refine XO.bd ?_ (fun _ _ _ => ?_) | refine XO.bind ?_ (fun _ _ => ?_) | exact XO.no | refine XO.so ?_ | refine XO.via (kx_l_Proof_bind_34 ..) ?_ | refine XV.via (kx_l_Proof_bind_34 ..) ?_ | assumption | exact KX.rf | refine KX.i rfl ?_ | refine KX.j rfl ?_ | refine KX.a rfl ?_ | refine KX.b rfl ?_ | refine KX.c rfl ?_)
set_option maxRecDepth 20000 in
theorem kx_f_Assertions_firstOfPair_17 (a1 : Int) (a2 : Int) (g : G2) : XO  g (f_Assertions_firstOfPair_17 a1 a2 g) := by
  unfold f_Assertions_firstOfPair_17
  repeat' (with_reducible first | refine XO.ite ?_ ?_ | refine XO.bd ?_ (fun _ _ _ => ?_) | refine XO.bind ?_ (fun _ _ => ?_) | exact XO.no | refine XO.so ?_ | refine XO.via (kx_f_Context_firstOf ..) ?_ | refine XV.via (kx_f_Context_firstOf ..) ?_ | assumption | exact KX.rf | refine KX.i rfl ?_ | refine KX.j rfl ?_ | refine KX.a rfl ?_ | refine KX.b rfl ?_ | refine KX.c rfl ?_)
set_option maxRecDepth 20000 in
theorem kx_f_Assertions_secondOfPair_17 (a1 : Int) (a2 : Int) (g : G2) : XO  g (f_Assertions_secondOfPair_17 a1 a2 g) := by
  unfold f_Assertions_secondOfPair_17
  repeat' (with_reducible first | refine XO.ite ?_ ?_ | refine XO.bd ?_ (fun _ _ _ => ?_) | refine XO.bind ?_ (fun _ _ => ?_) | exact XO.no | refine XO.so ?_ | refine XO.via (kx_f_Context_secondOf ..) ?_ | refine XV.via (kx_f_Context_secondOf ..) ?_ | assumption | exact KX.rf | refine KX.i rfl ?_ | refine KX.j rfl ?_ | refine KX.a rfl ?_ | refine KX.b rfl ?_ | refine KX.c rfl ?_)
set_option maxRecDepth 20000 in
theorem kx_b_Context_areApart_27_0 (L : Nat → Int64 → Int64 → Int → G2 → Option (Int × G2)) (l1 : Int64) (l3 : Int64) (i5 : Int) (g : G2) (hL : ∀ x0 x1 x2 x3 g, XO  g (L x0 x1 x2 x3 g)) : XO  g (b_Context_areApart_27_0 L l1 l3 i5 g) := by
  unfold b_Context_areApart_27_0
  repeat' (with_reducible first | refine XO.ite ?_ ?_ | refine XO.bd ?_ (fun _ _ _ => ?_) | refine XO.bind ?_ (fun _ _ => ?_) | exact XO.no | refine XO.so ?_ | refine XO.via (hL ..) ?_ | assumption | exact KX.rf | refine KX.i rfl ?_ | refine KX.j rfl ?_ | refine KX.a rfl ?_ | refine KX.b rfl ?_ | refine KX.c rfl ?_)
set_option maxRecDepth 20000 in
theorem kx_l_Context_areApart_27 : ∀ (n : Nat) (x0 : Nat) (x1 : Int64) (x2 : Int64) (x3 : Int) (g : G2), XO  g (l_Context_areApart_27 n x0 x1 x2 x3 g) := by
  intro n
  induction n with
  | zero => intros; exact XO.no
  | succ n ih =>
    intro x0 x1 x2 x3 g
    unfold l_Context_areApart_27
    try dsimp only
    first | (split <;> (first  | exact kx_b_Context_areApart_27_0 _ _ _ _ _ ih)) | (first  | exact kx_b_Context_areApart_27_0 _ _ _ _ _ ih)
set_option maxRecDepth 20000 in
theorem kx_f_Context_areApart_27 (a1 : Int64) (a3 : Int64) (g : G2) : XO  g (f_Context_areApart_27 a1 a3 g) := by
  unfold f_Context_areApart_27
  repeat' (with_reducible first | refine XO.ite ?_ ?_ | refine XO.bd ?_ (fun _ _ _ => ?_) | refine XO.bind ?_ (fun _ _ => ?_) | exact XO.no | refine XO.so ?_ | refine XO.via (kx_l_Context_areApart_27 ..) ?_ | refine XV.via (kx_l_Context_areApart_27 ..) ?_ | assumption | exact KX.rf | refine KX.i rfl ?_ | refine KX.j rfl ?_ | refine KX.a rfl ?_ | refine KX.b rfl ?_ | refine KX.c rfl ?_)
set_option maxRecDepth 20000 in
theorem kx_b_Proof_keepsApart_34_0 (L : Nat → Int → Int → G2 → Option (Int × G2)) (i1 : Int) (i2 : Int) (g : G2) (hL : ∀ x0 x1 x2 g, XO  g (L x0 x1 x2 g)) : XO  g (b_Proof_keepsApart_34_0 L i1 i2 g) := by
  unfold b_Proof_keepsApart_34_0
  repeat' (with_reducible first | refine XO.ite ?_ ?_ | refine XO.bd ?_ (fun _ _ _ => ?_) | refine XO.bind ?_ (fun _ _ => ?_) | exact XO.no | refine XO.so ?_ | refine XO.via (kx_f_Assertions_firstOfPair_17 ..) ?_ | refine XV.via (kx_f_Assertions_firstOfPair_17 ..) ?_ | refine XO.via (kx_f_Assertions_secondOfPair_17 ..) ?_ | refine XV.via (kx_f_Assertions_secondOfPair_17 ..) ?_ | refine XO.via (kx_f_Context_areApart_27 ..) ?_ | refine XV.via (kx_f_Context_areApart_27 ..) ?_ | refine XO.via (hL ..) ?_ | assumption | exact KX.rf | refine KX.i rfl ?_ | refine KX.j rfl ?_ | refine KX.a rfl ?_ | refine KX.b rfl ?_ | refine KX.c rfl ?_)
set_option maxRecDepth 20000 in
theorem kx_l_Proof_keepsApart_34 : ∀ (n : Nat) (x0 : Nat) (x1 : Int) (x2 : Int) (g : G2), XO  g (l_Proof_keepsApart_34 n x0 x1 x2 g) := by
  intro n
  induction n with
  | zero => intros; exact XO.no
  | succ n ih =>
    intro x0 x1 x2 g
    unfold l_Proof_keepsApart_34
    try dsimp only
    first | (split <;> (first  | exact kx_b_Proof_keepsApart_34_0 _ _ _ _ ih)) | (first  | exact kx_b_Proof_keepsApart_34_0 _ _ _ _ ih)
set_option maxRecDepth 20000 in
theorem kx_f_Proof_keepsApart_34 (a1 : Int) (g : G2) : XO  g (f_Proof_keepsApart_34 a1 g) := by
  unfold f_Proof_keepsApart_34
  repeat' (with_reducible first | refine XO.ite ?_ ?_ | refine XO.bd ?_ (fun _ _ _ => ?_) | refine XO.bind ?_ (fun _ _ => ?_) | exact XO.no | refine XO.so ?_ | refine XO.via (kx_l_Proof_keepsApart_34 ..) ?_ | refine XV.via (kx_l_Proof_keepsApart_34 ..) ?_ | assumption | exact KX.rf | refine KX.i rfl ?_ | refine KX.j rfl ?_ | refine KX.a rfl ?_ | refine KX.b rfl ?_ | refine KX.c rfl ?_)
set_option maxRecDepth 20000 in
theorem kx_f_Assertions_noteUse_17 (a1 : Int) (g : G2) : XV  g (f_Assertions_noteUse_17 a1 g) := by
  unfold f_Assertions_noteUse_17
  repeat' (with_reducible first | refine XV.ite ?_ ?_ | refine XV.bd ?_ (fun _ _ _ => ?_) | refine XV.bind ?_ (fun _ _ => ?_) | exact XV.no | refine XV.so ?_ | assumption | exact KX.rf | refine KX.i rfl ?_ | refine KX.j rfl ?_ | refine KX.a rfl ?_ | refine KX.b rfl ?_ | refine KX.c rfl ?_)
set_option maxRecDepth 20000 in
theorem kx_f_Expressions_isFull_35 (g : G2) : XO  g (f_Expressions_isFull_35 g) := by
  unfold f_Expressions_isFull_35
  repeat' (with_reducible first | refine XO.ite ?_ ?_ | refine XO.bd ?_ (fun _ _ _ => ?_) | refine XO.bind ?_ (fun _ _ => ?_) | exact XO.no | refine XO.so ?_ | assumption | exact KX.rf | refine KX.i rfl ?_ | refine KX.j rfl ?_ | refine KX.a rfl ?_ | refine KX.b rfl ?_ | refine KX.c rfl ?_)
set_option maxRecDepth 20000 in
theorem kx_f_Expressions_addCopy_35_39 (a2 : Int) (g : G2) : XV  g (f_Expressions_addCopy_35_39 a2 g) := by
  unfold f_Expressions_addCopy_35_39
  repeat' (with_reducible first | refine XV.ite ?_ ?_ | refine XV.bd ?_ (fun _ _ _ => ?_) | refine XV.bind ?_ (fun _ _ => ?_) | exact XV.no | refine XV.so ?_ | assumption | exact KX.rf | refine KX.i rfl ?_ | refine KX.j rfl ?_ | refine KX.a rfl ?_ | refine KX.b rfl ?_ | refine KX.c rfl ?_)
set_option maxRecDepth 20000 in
theorem kx_f_Assertions_noteStep_17 (a1 : Int) (g : G2) : XV  g (f_Assertions_noteStep_17 a1 g) := by
  unfold f_Assertions_noteStep_17
  repeat' (with_reducible first | refine XV.ite ?_ ?_ | refine XV.bd ?_ (fun _ _ _ => ?_) | refine XV.bind ?_ (fun _ _ => ?_) | exact XV.no | refine XV.so ?_ | assumption | exact KX.rf | refine KX.i rfl ?_ | refine KX.j rfl ?_ | refine KX.a rfl ?_ | refine KX.b rfl ?_ | refine KX.c rfl ?_)
set_option maxRecDepth 20000 in
theorem kx_f_Proof_put_34_39 (a2 : Int) (g : G2) : XO  g (f_Proof_put_34_39 a2 g) := by
  unfold f_Proof_put_34_39
  repeat' (with_reducible first | refine XO.ite ?_ ?_ | refine XO.bd ?_ (fun _ _ _ => ?_) | refine XO.bind ?_ (fun _ _ => ?_) | exact XO.no | refine XO.so ?_ | refine XO.via (kx_f_Assertions_noteStep_17 ..) ?_ | refine XV.via (kx_f_Assertions_noteStep_17 ..) ?_ | refine XO.via (kx_f_Expressions_addCopy_35_39 ..) ?_ | refine XV.via (kx_f_Expressions_addCopy_35_39 ..) ?_ | refine XO.via (kx_f_Expressions_isFull_35 ..) ?_ | refine XV.via (kx_f_Expressions_isFull_35 ..) ?_ | assumption | exact KX.rf | refine KX.i rfl ?_ | refine KX.j rfl ?_ | refine KX.a rfl ?_ | refine KX.b rfl ?_ | refine KX.c rfl ?_)
set_option maxRecDepth 20000 in
theorem kx_f_Expressions_addCopy_35_11 (a2 : Int) (g : G2) : XV  g (f_Expressions_addCopy_35_11 a2 g) := by
  unfold f_Expressions_addCopy_35_11
  repeat' (with_reducible first | refine XV.ite ?_ ?_ | refine XV.bd ?_ (fun _ _ _ => ?_) | refine XV.bind ?_ (fun _ _ => ?_) | exact XV.no | refine XV.so ?_ | assumption | exact KX.rf | refine KX.i rfl ?_ | refine KX.j rfl ?_ | refine KX.a rfl ?_ | refine KX.b rfl ?_ | refine KX.c rfl ?_)
set_option maxRecDepth 20000 in
theorem kx_f_Proof_put_34_11 (a2 : Int) (g : G2) : XO  g (f_Proof_put_34_11 a2 g) := by
  unfold f_Proof_put_34_11
  repeat' (with_reducible first | refine XO.ite ?_ ?_ | refine XO.bd ?_ (fun _ _ _ => ?_) | refine XO.bind ?_ (fun _ _ => ?_) | exact XO.no | refine XO.so ?_ | refine XO.via (kx_f_Assertions_noteStep_17 ..) ?_ | refine XV.via (kx_f_Assertions_noteStep_17 ..) ?_ | refine XO.via (kx_f_Expressions_addCopy_35_11 ..) ?_ | refine XV.via (kx_f_Expressions_addCopy_35_11 ..) ?_ | refine XO.via (kx_f_Expressions_isFull_35 ..) ?_ | refine XV.via (kx_f_Expressions_isFull_35 ..) ?_ | assumption | exact KX.rf | refine KX.i rfl ?_ | refine KX.j rfl ?_ | refine KX.a rfl ?_ | refine KX.b rfl ?_ | refine KX.c rfl ?_)
set_option maxRecDepth 20000 in
theorem kx_f_Proof_stepWith_34 (a1 : Int) (g : G2) : XO  g (f_Proof_stepWith_34 a1 g) := by
  unfold f_Proof_stepWith_34
  repeat' (with_reducible first | refine XO.ite ?_ ?_ | refine XO.bd ?_ (fun _ _ _ => ?_) | refine XO.bind ?_ (fun _ _ => ?_) | exact XO.no | refine XO.so ?_ | refine XO.via (kx_f_Assertions_noteUse_17 ..) ?_ | refine XV.via (kx_f_Assertions_noteUse_17 ..) ?_ | refine XO.via (kx_f_J_bitCount ..) ?_ | refine XV.via (kx_f_J_bitCount ..) ?_ | refine XO.via (kx_f_Proof_bind_34 ..) ?_ | refine XV.via (kx_f_Proof_bind_34 ..) ?_ | refine XO.via (kx_f_Proof_keepsApart_34 ..) ?_ | refine XV.via (kx_f_Proof_keepsApart_34 ..) ?_ | refine XO.via (kx_f_Proof_put_34_11 ..) ?_ | refine XV.via (kx_f_Proof_put_34_11 ..) ?_ | refine XO.via (kx_f_Proof_put_34_39 ..) ?_ | refine XV.via (kx_f_Proof_put_34_39 ..) ?_ | refine XO.via (kx_f_Proof_replaceIn_34 ..) ?_ | refine XV.via (kx_f_Proof_replaceIn_34 ..) ?_ | refine XO.via (kx_f_Statements_isHypothesis_8 ..) ?_ | refine XV.via (kx_f_Statements_isHypothesis_8 ..) ?_ | assumption | exact KX.rf | refine KX.i rfl ?_ | refine KX.j rfl ?_ | refine KX.a rfl ?_ | refine KX.b rfl ?_ | refine KX.c rfl ?_)
set_option maxRecDepth 20000 in
theorem kx_f_Reader_takeStep_26 (a1 : Int64) (g : G2) : XO  g (f_Reader_takeStep_26 a1 g) := by
  unfold f_Reader_takeStep_26
  repeat' (with_reducible first | refine XO.ite ?_ ?_ | refine XO.bd ?_ (fun _ _ _ => ?_) | refine XO.bind ?_ (fun _ _ => ?_) | exact XO.no | refine XO.so ?_ | refine XO.via (kx_f_Proof_leaveGap_34 ..) ?_ | refine XV.via (kx_f_Proof_leaveGap_34 ..) ?_ | refine XO.via (kx_f_Proof_stepWith_34 ..) ?_ | refine XV.via (kx_f_Proof_stepWith_34 ..) ?_ | refine XO.via (kx_f_Reader_findUsable_26 ..) ?_ | refine XV.via (kx_f_Reader_findUsable_26 ..) ?_ | assumption | exact KX.rf | refine KX.i rfl ?_ | refine KX.j rfl ?_ | refine KX.a rfl ?_ | refine KX.b rfl ?_ | refine KX.c rfl ?_)
set_option maxRecDepth 20000 in
theorem kx_f_Reader_beginSteps_26 (a1 : Int64) (g : G2) : XO  g (f_Reader_beginSteps_26 a1 g) := by
  unfold f_Reader_beginSteps_26
  repeat' (with_reducible first | refine XO.ite ?_ ?_ | refine XO.bd ?_ (fun _ _ _ => ?_) | refine XO.bind ?_ (fun _ _ => ?_) | exact XO.no | refine XO.so ?_ | refine XO.via (kx_f_Letters_begin_44 ..) ?_ | refine XV.via (kx_f_Letters_begin_44 ..) ?_ | refine XO.via (kx_f_Reader_takeStep_26 ..) ?_ | refine XV.via (kx_f_Reader_takeStep_26 ..) ?_ | assumption | exact KX.rf | refine KX.i rfl ?_ | refine KX.j rfl ?_ | refine KX.a rfl ?_ | refine KX.b rfl ?_ | refine KX.c rfl ?_)
set_option maxRecDepth 20000 in
theorem kx_f_Letters_addListed_44 (a1 : Int) (g : G2) : XO  g (f_Letters_addListed_44 a1 g) := by
  unfold f_Letters_addListed_44
  repeat' (with_reducible first | refine XO.ite ?_ ?_ | refine XO.bd ?_ (fun _ _ _ => ?_) | refine XO.bind ?_ (fun _ _ => ?_) | exact XO.no | refine XO.so ?_ | assumption | exact KX.rf | refine KX.i rfl ?_ | refine KX.j rfl ?_ | refine KX.a rfl ?_ | refine KX.b rfl ?_ | refine KX.c rfl ?_)
set_option maxRecDepth 20000 in
theorem kx_f_Reader_takeListed_26 (a1 : Int64) (g : G2) : XO  g (f_Reader_takeListed_26 a1 g) := by
  unfold f_Reader_takeListed_26
  repeat' (with_reducible first | refine XO.ite ?_ ?_ | refine XO.bd ?_ (fun _ _ _ => ?_) | refine XO.bind ?_ (fun _ _ => ?_) | exact XO.no | refine XO.so ?_ | refine XO.via (kx_f_Letters_addListed_44 ..) ?_ | refine XV.via (kx_f_Letters_addListed_44 ..) ?_ | refine XO.via (kx_f_Reader_findUsable_26 ..) ?_ | refine XV.via (kx_f_Reader_findUsable_26 ..) ?_ | refine XO.via (kx_f_Statements_isMandatory_8 ..) ?_ | refine XV.via (kx_f_Statements_isMandatory_8 ..) ?_ | assumption | exact KX.rf | refine KX.i rfl ?_ | refine KX.j rfl ?_ | refine KX.a rfl ?_ | refine KX.b rfl ?_ | refine KX.c rfl ?_)
set_option maxRecDepth 20000 in
theorem kx_f_Letters_addGap_44 (g : G2) : XO  g (f_Letters_addGap_44 g) := by
  unfold f_Letters_addGap_44
  repeat' (with_reducible first | refine XO.ite ?_ ?_ | refine XO.bd ?_ (fun _ _ _ => ?_) | refine XO.bind ?_ (fun _ _ => ?_) | exact XO.no | refine XO.so ?_ | refine XO.via (kx_f_Proof_leaveGap_34 ..) ?_ | refine XV.via (kx_f_Proof_leaveGap_34 ..) ?_ | assumption | exact KX.rf | refine KX.i rfl ?_ | refine KX.j rfl ?_ | refine KX.a rfl ?_ | refine KX.b rfl ?_ | refine KX.c rfl ?_)
set_option maxRecDepth 20000 in
theorem kx_f_Expressions_addCopy_46_35 (a2 : Int) (g : G2) : XV  g (f_Expressions_addCopy_46_35 a2 g) := by
  unfold f_Expressions_addCopy_46_35
  repeat' (with_reducible first | refine XV.ite ?_ ?_ | refine XV.bd ?_ (fun _ _ _ => ?_) | refine XV.bind ?_ (fun _ _ => ?_) | exact XV.no | refine XV.so ?_ | assumption | exact KX.rf | refine KX.i rfl ?_ | refine KX.j rfl ?_ | refine KX.a rfl ?_ | refine KX.b rfl ?_ | refine KX.c rfl ?_)
set_option maxRecDepth 20000 in
theorem kx_f_Letters_addTag_44 (g : G2) : XO  g (f_Letters_addTag_44 g) := by
  unfold f_Letters_addTag_44
  repeat' (with_reducible first | refine XO.ite ?_ ?_ | refine XO.bd ?_ (fun _ _ _ => ?_) | refine XO.bind ?_ (fun _ _ => ?_) | exact XO.no | refine XO.so ?_ | refine XO.via (kx_f_Expressions_addCopy_46_35 ..) ?_ | refine XV.via (kx_f_Expressions_addCopy_46_35 ..) ?_ | assumption | exact KX.rf | refine KX.i rfl ?_ | refine KX.j rfl ?_ | refine KX.a rfl ?_ | refine KX.b rfl ?_ | refine KX.c rfl ?_)
set_option maxRecDepth 20000 in
theorem kx_f_Letters_takeLetter_44 (a1 : Int) (g : G2) : XO  g (f_Letters_takeLetter_44 a1 g) := by
  unfold f_Letters_takeLetter_44
  repeat' (with_reducible first | refine XO.ite ?_ ?_ | refine XO.bd ?_ (fun _ _ _ => ?_) | refine XO.bind ?_ (fun _ _ => ?_) | exact XO.no | refine XO.so ?_ | refine XO.via (kx_f_Letters_addGap_44 ..) ?_ | refine XV.via (kx_f_Letters_addGap_44 ..) ?_ | refine XO.via (kx_f_Letters_addTag_44 ..) ?_ | refine XV.via (kx_f_Letters_addTag_44 ..) ?_ | assumption | exact KX.rf | refine KX.i rfl ?_ | refine KX.j rfl ?_ | refine KX.a rfl ?_ | refine KX.b rfl ?_ | refine KX.c rfl ?_)
set_option maxRecDepth 20000 in
theorem kx_f_Expressions_addCopy_35_46 (a2 : Int) (g : G2) : XV  g (f_Expressions_addCopy_35_46 a2 g) := by
  unfold f_Expressions_addCopy_35_46
  repeat' (with_reducible first | refine XV.ite ?_ ?_ | refine XV.bd ?_ (fun _ _ _ => ?_) | refine XV.bind ?_ (fun _ _ => ?_) | exact XV.no | refine XV.so ?_ | assumption | exact KX.rf | refine KX.i rfl ?_ | refine KX.j rfl ?_ | refine KX.a rfl ?_ | refine KX.b rfl ?_ | refine KX.c rfl ?_)
set_option maxRecDepth 20000 in
theorem kx_f_Proof_put_34_46 (a2 : Int) (g : G2) : XO  g (f_Proof_put_34_46 a2 g) := by
  unfold f_Proof_put_34_46
  repeat' (with_reducible first | refine XO.ite ?_ ?_ | refine XO.bd ?_ (fun _ _ _ => ?_) | refine XO.bind ?_ (fun _ _ => ?_) | exact XO.no | refine XO.so ?_ | refine XO.via (kx_f_Assertions_noteStep_17 ..) ?_ | refine XV.via (kx_f_Assertions_noteStep_17 ..) ?_ | refine XO.via (kx_f_Expressions_addCopy_35_46 ..) ?_ | refine XV.via (kx_f_Expressions_addCopy_35_46 ..) ?_ | refine XO.via (kx_f_Expressions_isFull_35 ..) ?_ | refine XV.via (kx_f_Expressions_isFull_35 ..) ?_ | assumption | exact KX.rf | refine KX.i rfl ?_ | refine KX.j rfl ?_ | refine KX.a rfl ?_ | refine KX.b rfl ?_ | refine KX.c rfl ?_)
set_option maxRecDepth 20000 in
theorem kx_f_Letters_stepWithNumber_44 (g : G2) : XO  g (f_Letters_stepWithNumber_44 g) := by
  unfold f_Letters_stepWithNumber_44
  repeat' (with_reducible first | refine XO.ite ?_ ?_ | refine XO.bd ?_ (fun _ _ _ => ?_) | refine XO.bind ?_ (fun _ _ => ?_) | exact XO.no | refine XO.so ?_ | refine XO.via (kx_f_Proof_put_34_46 ..) ?_ | refine XV.via (kx_f_Proof_put_34_46 ..) ?_ | refine XO.via (kx_f_Proof_stepWith_34 ..) ?_ | refine XV.via (kx_f_Proof_stepWith_34 ..) ?_ | assumption | exact KX.rf | refine KX.i rfl ?_ | refine KX.j rfl ?_ | refine KX.a rfl ?_ | refine KX.b rfl ?_ | refine KX.c rfl ?_)
set_option maxRecDepth 20000 in
theorem kx_b_Letters_takeLetters_44_2_0 (L : Nat → Int → Int → G2 → Option (Int × G2)) (i2 : Int) (i3 : Int) (g : G2) (hL : ∀ x0 x1 x2 g, XO  g (L x0 x1 x2 g)) : XO  g (b_Letters_takeLetters_44_2_0 L i2 i3 g) := by
  unfold b_Letters_takeLetters_44_2_0
  repeat' (with_reducible first | refine XO.ite ?_ ?_ | refine XO.bd ?_ (fun _ _ _ => ?_) | refine XO.bind ?_ (fun _ _ => ?_) | exact XO.no | refine XO.so ?_ | refine XO.via (hL ..) ?_ | assumption | exact KX.rf | refine KX.i rfl ?_ | refine KX.j rfl ?_ | refine KX.a rfl ?_ | refine KX.b rfl ?_ | refine KX.c rfl ?_)
set_option maxRecDepth 20000 in
theorem kx_b_Letters_takeLetters_44_2_1 (L : Nat → Int → Int → G2 → Option (Int × G2)) (i2 : Int) (i3 : Int) (g : G2) (hL : ∀ x0 x1 x2 g, XO  g (L x0 x1 x2 g)) : XO  g (b_Letters_takeLetters_44_2_1 L i2 i3 g) := by
  unfold b_Letters_takeLetters_44_2_1
  repeat' (with_reducible first | refine XO.ite ?_ ?_ | refine XO.bd ?_ (fun _ _ _ => ?_) | refine XO.bind ?_ (fun _ _ => ?_) | exact XO.no | refine XO.so ?_ | refine XO.via (hL ..) ?_ | assumption | exact KX.rf | refine KX.i rfl ?_ | refine KX.j rfl ?_ | refine KX.a rfl ?_ | refine KX.b rfl ?_ | refine KX.c rfl ?_)
set_option maxRecDepth 20000 in
theorem kx_b_Letters_takeLetters_44_2_2 (L : Nat → Int → Int → G2 → Option (Int × G2)) (i2 : Int) (i3 : Int) (g : G2) (hL : ∀ x0 x1 x2 g, XO  g (L x0 x1 x2 g)) : XO  g (b_Letters_takeLetters_44_2_2 L i2 i3 g) := by
  unfold b_Letters_takeLetters_44_2_2
  repeat' (with_reducible first | refine XO.ite ?_ ?_ | refine XO.bd ?_ (fun _ _ _ => ?_) | refine XO.bind ?_ (fun _ _ => ?_) | exact XO.no | refine XO.so ?_ | refine XO.via (hL ..) ?_ | assumption | exact KX.rf | refine KX.i rfl ?_ | refine KX.j rfl ?_ | refine KX.a rfl ?_ | refine KX.b rfl ?_ | refine KX.c rfl ?_)
set_option maxRecDepth 20000 in
theorem kx_b_Letters_takeLetters_44_2_3 (L : Nat → Int → Int → G2 → Option (Int × G2)) (i2 : Int) (i3 : Int) (g : G2) (hL : ∀ x0 x1 x2 g, XO  g (L x0 x1 x2 g)) : XO  g (b_Letters_takeLetters_44_2_3 L i2 i3 g) := by
  unfold b_Letters_takeLetters_44_2_3
  repeat' (with_reducible first | refine XO.ite ?_ ?_ | refine XO.bd ?_ (fun _ _ _ => ?_) | refine XO.bind ?_ (fun _ _ => ?_) | exact XO.no | refine XO.so ?_ | refine XO.via (kx_f_Letters_stepWithNumber_44 ..) ?_ | refine XV.via (kx_f_Letters_stepWithNumber_44 ..) ?_ | refine XO.via (kx_f_Letters_takeLetter_44 ..) ?_ | refine XV.via (kx_f_Letters_takeLetter_44 ..) ?_ | refine XO.via (hL ..) ?_ | assumption | exact KX.rf | refine KX.i rfl ?_ | refine KX.j rfl ?_ | refine KX.a rfl ?_ | refine KX.b rfl ?_ | refine KX.c rfl ?_)
set_option maxRecDepth 20000 in
theorem kx_b_Letters_takeLetters_44_2_4 (L : Nat → Int → Int → G2 → Option (Int × G2)) (i2 : Int) (i3 : Int) (g : G2) (hL : ∀ x0 x1 x2 g, XO  g (L x0 x1 x2 g)) : XO  g (b_Letters_takeLetters_44_2_4 L i2 i3 g) := by
  unfold b_Letters_takeLetters_44_2_4
  repeat' (with_reducible first | refine XO.ite ?_ ?_ | refine XO.bd ?_ (fun _ _ _ => ?_) | refine XO.bind ?_ (fun _ _ => ?_) | exact XO.no | refine XO.so ?_ | refine XO.via (hL ..) ?_ | assumption | exact KX.rf | refine KX.i rfl ?_ | refine KX.j rfl ?_ | refine KX.a rfl ?_ | refine KX.b rfl ?_ | refine KX.c rfl ?_)
set_option maxRecDepth 20000 in
theorem kx_b_Letters_takeLetters_44_2_5 (L : Nat → Int → Int → G2 → Option (Int × G2)) (i2 : Int) (i3 : Int) (g : G2) (hL : ∀ x0 x1 x2 g, XO  g (L x0 x1 x2 g)) : XO  g (b_Letters_takeLetters_44_2_5 L i2 i3 g) := by
  unfold b_Letters_takeLetters_44_2_5
  repeat' (with_reducible first | refine XO.ite ?_ ?_ | refine XO.bd ?_ (fun _ _ _ => ?_) | refine XO.bind ?_ (fun _ _ => ?_) | exact XO.no | refine XO.so ?_ | refine XO.via (hL ..) ?_ | assumption | exact KX.rf | refine KX.i rfl ?_ | refine KX.j rfl ?_ | refine KX.a rfl ?_ | refine KX.b rfl ?_ | refine KX.c rfl ?_)
set_option maxRecDepth 20000 in
theorem kx_l_Letters_takeLetters_44_2 : ∀ (n : Nat) (x0 : Nat) (x1 : Int) (x2 : Int) (g : G2), XO  g (l_Letters_takeLetters_44_2 n x0 x1 x2 g) := by
  intro n
  induction n with
  | zero => intros; exact XO.no
  | succ n ih =>
    intro x0 x1 x2 g
    unfold l_Letters_takeLetters_44_2
    try dsimp only
    first | (split <;> (first  | exact kx_b_Letters_takeLetters_44_2_0 _ _ _ _ ih | exact kx_b_Letters_takeLetters_44_2_1 _ _ _ _ ih | exact kx_b_Letters_takeLetters_44_2_2 _ _ _ _ ih | exact kx_b_Letters_takeLetters_44_2_3 _ _ _ _ ih | exact kx_b_Letters_takeLetters_44_2_4 _ _ _ _ ih | exact kx_b_Letters_takeLetters_44_2_5 _ _ _ _ ih)) | (first  | exact kx_b_Letters_takeLetters_44_2_0 _ _ _ _ ih | exact kx_b_Letters_takeLetters_44_2_1 _ _ _ _ ih | exact kx_b_Letters_takeLetters_44_2_2 _ _ _ _ ih | exact kx_b_Letters_takeLetters_44_2_3 _ _ _ _ ih | exact kx_b_Letters_takeLetters_44_2_4 _ _ _ _ ih | exact kx_b_Letters_takeLetters_44_2_5 _ _ _ _ ih)
set_option maxRecDepth 20000 in
theorem kx_f_Letters_takeLetters_44_2 (g : G2) : XO  g (f_Letters_takeLetters_44_2 g) := by
  unfold f_Letters_takeLetters_44_2
  repeat' (with_reducible first | refine XO.ite ?_ ?_ | refine XO.bd ?_ (fun _ _ _ => ?_) | refine XO.bind ?_ (fun _ _ => ?_) | exact XO.no | refine XO.so ?_ | refine XO.via (kx_l_Letters_takeLetters_44_2 ..) ?_ | refine XV.via (kx_l_Letters_takeLetters_44_2 ..) ?_ | assumption | exact KX.rf | refine KX.i rfl ?_ | refine KX.j rfl ?_ | refine KX.a rfl ?_ | refine KX.b rfl ?_ | refine KX.c rfl ?_)
set_option maxRecDepth 20000 in
theorem kx_f_Reader_takeName_26_2 (g : G2) : XO  g (f_Reader_takeName_26_2 g) := by
  unfold f_Reader_takeName_26_2
  repeat' (with_reducible first | refine XO.ite ?_ ?_ | refine XO.bd ?_ (fun _ _ _ => ?_) | refine XO.bind ?_ (fun _ _ => ?_) | exact XO.no | refine XO.so ?_ | refine XO.via (kx_f_Letters_takeLetters_44_2 ..) ?_ | refine XV.via (kx_f_Letters_takeLetters_44_2 ..) ?_ | refine XO.via (kx_f_Names_find_4 ..) ?_ | refine XV.via (kx_f_Names_find_4 ..) ?_ | refine XO.via (kx_f_Reader_beginSteps_26 ..) ?_ | refine XV.via (kx_f_Reader_beginSteps_26 ..) ?_ | refine XO.via (kx_f_Reader_declareConstant_26 ..) ?_ | refine XV.via (kx_f_Reader_declareConstant_26 ..) ?_ | refine XO.via (kx_f_Reader_declareVariable_26 ..) ?_ | refine XV.via (kx_f_Reader_declareVariable_26 ..) ?_ | refine XO.via (kx_f_Reader_takeApart_26 ..) ?_ | refine XV.via (kx_f_Reader_takeApart_26 ..) ?_ | refine XO.via (kx_f_Reader_takeFloating_26 ..) ?_ | refine XV.via (kx_f_Reader_takeFloating_26 ..) ?_ | refine XO.via (kx_f_Reader_takeLabel_26 ..) ?_ | refine XV.via (kx_f_Reader_takeLabel_26 ..) ?_ | refine XO.via (kx_f_Reader_takeListed_26 ..) ?_ | refine XV.via (kx_f_Reader_takeListed_26 ..) ?_ | refine XO.via (kx_f_Reader_takeStep_26 ..) ?_ | refine XV.via (kx_f_Reader_takeStep_26 ..) ?_ | refine XO.via (kx_f_Reader_takeSymbol_26 ..) ?_ | refine XV.via (kx_f_Reader_takeSymbol_26 ..) ?_ | refine XO.via (kx_f_Reader_takeType_26 ..) ?_ | refine XV.via (kx_f_Reader_takeType_26 ..) ?_ | refine XO.via (kx_f_Text_isTooLong_2 ..) ?_ | refine XV.via (kx_f_Text_isTooLong_2 ..) ?_ | assumption | exact KX.rf | refine KX.i rfl ?_ | refine KX.j rfl ?_ | refine KX.a rfl ?_ | refine KX.b rfl ?_ | refine KX.c rfl ?_)
set_option maxRecDepth 20000 in
theorem kx_f_Reader_beginNames_26 (a1 : Int) (g : G2) : XO  g (f_Reader_beginNames_26 a1 g) := by
  unfold f_Reader_beginNames_26
  repeat' (with_reducible first | refine XO.ite ?_ ?_ | refine XO.bd ?_ (fun _ _ _ => ?_) | refine XO.bind ?_ (fun _ _ => ?_) | exact XO.no | refine XO.so ?_ | assumption | exact KX.rf | refine KX.i rfl ?_ | refine KX.j rfl ?_ | refine KX.a rfl ?_ | refine KX.b rfl ?_ | refine KX.c rfl ?_)
set_option maxRecDepth 20000 in
theorem kx_f_Context_openScope_27 (g : G2) : XO  g (f_Context_openScope_27 g) := by
  unfold f_Context_openScope_27
  repeat' (with_reducible first | refine XO.ite ?_ ?_ | refine XO.bd ?_ (fun _ _ _ => ?_) | refine XO.bind ?_ (fun _ _ => ?_) | exact XO.no | refine XO.so ?_ | assumption | exact KX.rf | refine KX.i rfl ?_ | refine KX.j rfl ?_ | refine KX.a rfl ?_ | refine KX.b rfl ?_ | refine KX.c rfl ?_)
set_option maxRecDepth 20000 in
theorem kx_f_Context_closeScope_27 (g : G2) : XO  g (f_Context_closeScope_27 g) := by
  unfold f_Context_closeScope_27
  repeat' (with_reducible first | refine XO.ite ?_ ?_ | refine XO.bd ?_ (fun _ _ _ => ?_) | refine XO.bind ?_ (fun _ _ => ?_) | exact XO.no | refine XO.so ?_ | refine XO.via (kx_f_Context_forgetPairs_27 ..) ?_ | refine XV.via (kx_f_Context_forgetPairs_27 ..) ?_ | assumption | exact KX.rf | refine KX.i rfl ?_ | refine KX.j rfl ?_ | refine KX.a rfl ?_ | refine KX.b rfl ?_ | refine KX.c rfl ?_)
set_option maxRecDepth 20000 in
theorem kx_f_Reader_beginUnlabelled_26 (a1 : Int) (g : G2) : XO  g (f_Reader_beginUnlabelled_26 a1 g) := by
  unfold f_Reader_beginUnlabelled_26
  repeat' (with_reducible first | refine XO.ite ?_ ?_ | refine XO.bd ?_ (fun _ _ _ => ?_) | refine XO.bind ?_ (fun _ _ => ?_) | exact XO.no | refine XO.so ?_ | refine XO.via (kx_f_Context_closeScope_27 ..) ?_ | refine XV.via (kx_f_Context_closeScope_27 ..) ?_ | refine XO.via (kx_f_Context_openScope_27 ..) ?_ | refine XV.via (kx_f_Context_openScope_27 ..) ?_ | refine XO.via (kx_f_Reader_beginNames_26 ..) ?_ | refine XV.via (kx_f_Reader_beginNames_26 ..) ?_ | assumption | exact KX.rf | refine KX.i rfl ?_ | refine KX.j rfl ?_ | refine KX.a rfl ?_ | refine KX.b rfl ?_ | refine KX.c rfl ?_)
set_option maxRecDepth 20000 in
theorem kx_f_Reader_endNames_26 (a1 : Int) (g : G2) : XO  g (f_Reader_endNames_26 a1 g) := by
  unfold f_Reader_endNames_26
  repeat' (with_reducible first | refine XO.ite ?_ ?_ | refine XO.bd ?_ (fun _ _ _ => ?_) | refine XO.bind ?_ (fun _ _ => ?_) | exact XO.no | refine XO.so ?_ | assumption | exact KX.rf | refine KX.i rfl ?_ | refine KX.j rfl ?_ | refine KX.a rfl ?_ | refine KX.b rfl ?_ | refine KX.c rfl ?_)
set_option maxRecDepth 20000 in
theorem kx_f_Reader_takeKind_26 (a1 : Int) (g : G2) : XO  g (f_Reader_takeKind_26 a1 g) := by
  unfold f_Reader_takeKind_26
  repeat' (with_reducible first | refine XO.ite ?_ ?_ | refine XO.bd ?_ (fun _ _ _ => ?_) | refine XO.bind ?_ (fun _ _ => ?_) | exact XO.no | refine XO.so ?_ | assumption | exact KX.rf | refine KX.i rfl ?_ | refine KX.j rfl ?_ | refine KX.a rfl ?_ | refine KX.b rfl ?_ | refine KX.c rfl ?_)
set_option maxRecDepth 20000 in
theorem kx_f_Reader_declare_26 (g : G2) : XO  g (f_Reader_declare_26 g) := by
  unfold f_Reader_declare_26
  repeat' (with_reducible first | refine XO.ite ?_ ?_ | refine XO.bd ?_ (fun _ _ _ => ?_) | refine XO.bind ?_ (fun _ _ => ?_) | exact XO.no | refine XO.so ?_ | refine XO.via (kx_f_Names_add_4 ..) ?_ | refine XV.via (kx_f_Names_add_4 ..) ?_ | refine XO.via (kx_f_Statements_isHypothesis_8 ..) ?_ | refine XV.via (kx_f_Statements_isHypothesis_8 ..) ?_ | assumption | exact KX.rf | refine KX.i rfl ?_ | refine KX.j rfl ?_ | refine KX.a rfl ?_ | refine KX.b rfl ?_ | refine KX.c rfl ?_)
set_option maxRecDepth 20000 in
theorem kx_b_Assertions_start_17_0 (L : Nat → Int → G2 → Option (G2)) (i2 : Int) (g : G2) (hL : ∀ x0 x1 g, XV  g (L x0 x1 g)) : XV  g (b_Assertions_start_17_0 L i2 g) := by
  unfold b_Assertions_start_17_0
  repeat' (with_reducible first | refine XV.ite ?_ ?_ | refine XV.bd ?_ (fun _ _ _ => ?_) | refine XV.bind ?_ (fun _ _ => ?_) | exact XV.no | refine XV.so ?_ | refine XV.via (hL ..) ?_ | assumption | exact KX.rf | refine KX.i rfl ?_ | refine KX.j rfl ?_ | refine KX.a rfl ?_ | refine KX.b rfl ?_ | refine KX.c rfl ?_)
set_option maxRecDepth 20000 in
theorem kx_l_Assertions_start_17 : ∀ (n : Nat) (x0 : Nat) (x1 : Int) (g : G2), XV  g (l_Assertions_start_17 n x0 x1 g) := by
  intro n
  induction n with
  | zero => intros; exact XV.no
  | succ n ih =>
    intro x0 x1 g
    unfold l_Assertions_start_17
    try dsimp only
    first | (split <;> (first  | exact kx_b_Assertions_start_17_0 _ _ _ ih)) | (first  | exact kx_b_Assertions_start_17_0 _ _ _ ih)
set_option maxRecDepth 20000 in
theorem kx_f_Assertions_start_17 (a1 : Int) (g : G2) : XV  g (f_Assertions_start_17 a1 g) := by
  unfold f_Assertions_start_17
  repeat' (with_reducible first | refine XV.ite ?_ ?_ | refine XV.bd ?_ (fun _ _ _ => ?_) | refine XV.bind ?_ (fun _ _ => ?_) | exact XV.no | refine XV.so ?_ | refine XO.via (kx_l_Assertions_start_17 ..) ?_ | refine XV.via (kx_l_Assertions_start_17 ..) ?_ | assumption | exact KX.rf | refine KX.i rfl ?_ | refine KX.j rfl ?_ | refine KX.a rfl ?_ | refine KX.b rfl ?_ | refine KX.c rfl ?_)
set_option maxRecDepth 20000 in
theorem kx_b_Reader_mandatoryVariables_26_0 (L : Nat → Int → Int64 → Int → G2 → Option (Int64 × G2)) (i1 : Int) (l2 : Int64) (i4 : Int) (g : G2) (hL : ∀ x0 x1 x2 x3 g, XO  g (L x0 x1 x2 x3 g)) : XO  g (b_Reader_mandatoryVariables_26_0 L i1 l2 i4 g) := by
  unfold b_Reader_mandatoryVariables_26_0
  repeat' (with_reducible first | refine XO.ite ?_ ?_ | refine XO.bd ?_ (fun _ _ _ => ?_) | refine XO.bind ?_ (fun _ _ => ?_) | exact XO.no | refine XO.so ?_ | refine XO.via (kx_f_Reader_isActiveHypothesis_26 ..) ?_ | refine XV.via (kx_f_Reader_isActiveHypothesis_26 ..) ?_ | refine XO.via (hL ..) ?_ | assumption | exact KX.rf | refine KX.i rfl ?_ | refine KX.j rfl ?_ | refine KX.a rfl ?_ | refine KX.b rfl ?_ | refine KX.c rfl ?_)
set_option maxRecDepth 20000 in
theorem kx_l_Reader_mandatoryVariables_26 : ∀ (n : Nat) (x0 : Nat) (x1 : Int) (x2 : Int64) (x3 : Int) (g : G2), XO  g (l_Reader_mandatoryVariables_26 n x0 x1 x2 x3 g) := by
  intro n
  induction n with
  | zero => intros; exact XO.no
  | succ n ih =>
    intro x0 x1 x2 x3 g
    unfold l_Reader_mandatoryVariables_26
    try dsimp only
    first | (split <;> (first  | exact kx_b_Reader_mandatoryVariables_26_0 _ _ _ _ _ ih)) | (first  | exact kx_b_Reader_mandatoryVariables_26_0 _ _ _ _ _ ih)
set_option maxRecDepth 20000 in
theorem kx_f_Reader_mandatoryVariables_26 (a1 : Int) (g : G2) : XO  g (f_Reader_mandatoryVariables_26 a1 g) := by
  unfold f_Reader_mandatoryVariables_26
  repeat' (with_reducible first | refine XO.ite ?_ ?_ | refine XO.bd ?_ (fun _ _ _ => ?_) | refine XO.bind ?_ (fun _ _ => ?_) | exact XO.no | refine XO.so ?_ | refine XO.via (kx_l_Reader_mandatoryVariables_26 ..) ?_ | refine XV.via (kx_l_Reader_mandatoryVariables_26 ..) ?_ | assumption | exact KX.rf | refine KX.i rfl ?_ | refine KX.j rfl ?_ | refine KX.a rfl ?_ | refine KX.b rfl ?_ | refine KX.c rfl ?_)
set_option maxRecDepth 20000 in
theorem kx_f_Assertions_addPair_17 (a1 : Int) (g : G2) : XV  g (f_Assertions_addPair_17 a1 g) := by
  unfold f_Assertions_addPair_17
  repeat' (with_reducible first | refine XV.ite ?_ ?_ | refine XV.bd ?_ (fun _ _ _ => ?_) | refine XV.bind ?_ (fun _ _ => ?_) | exact XV.no | refine XV.so ?_ | assumption | exact KX.rf | refine KX.i rfl ?_ | refine KX.j rfl ?_ | refine KX.a rfl ?_ | refine KX.b rfl ?_ | refine KX.c rfl ?_)
set_option maxRecDepth 20000 in
theorem kx_b_Reader_keepPairs_26_0 (L : Nat → Int64 → Int → Int64 → Int → G2 → Option (G2)) (l1 : Int64) (i3 : Int) (l4 : Int64) (i6 : Int) (g : G2) (hL : ∀ x0 x1 x2 x3 x4 g, XV  g (L x0 x1 x2 x3 x4 g)) : XV  g (b_Reader_keepPairs_26_0 L l1 i3 l4 i6 g) := by
  unfold b_Reader_keepPairs_26_0
  repeat' (with_reducible first | refine XV.ite ?_ ?_ | refine XV.bd ?_ (fun _ _ _ => ?_) | refine XV.bind ?_ (fun _ _ => ?_) | exact XV.no | refine XV.so ?_ | refine XV.via (hL ..) ?_ | assumption | exact KX.rf | refine KX.i rfl ?_ | refine KX.j rfl ?_ | refine KX.a rfl ?_ | refine KX.b rfl ?_ | refine KX.c rfl ?_)
set_option maxRecDepth 20000 in
theorem kx_b_Reader_keepPairs_26_1 (L : Nat → Int64 → Int → Int64 → Int → G2 → Option (G2)) (l1 : Int64) (i3 : Int) (l4 : Int64) (i6 : Int) (g : G2) (hL : ∀ x0 x1 x2 x3 x4 g, XV  g (L x0 x1 x2 x3 x4 g)) : XV  g (b_Reader_keepPairs_26_1 L l1 i3 l4 i6 g) := by
  unfold b_Reader_keepPairs_26_1
  repeat' (with_reducible first | refine XV.ite ?_ ?_ | refine XV.bd ?_ (fun _ _ _ => ?_) | refine XV.bind ?_ (fun _ _ => ?_) | exact XV.no | refine XV.so ?_ | refine XO.via (kx_f_Assertions_addPair_17 ..) ?_ | refine XV.via (kx_f_Assertions_addPair_17 ..) ?_ | refine XO.via (kx_f_Context_pairOf ..) ?_ | refine XV.via (kx_f_Context_pairOf ..) ?_ | refine XV.via (hL ..) ?_ | assumption | exact KX.rf | refine KX.i rfl ?_ | refine KX.j rfl ?_ | refine KX.a rfl ?_ | refine KX.b rfl ?_ | refine KX.c rfl ?_)
set_option maxRecDepth 20000 in
theorem kx_l_Reader_keepPairs_26 : ∀ (n : Nat) (x0 : Nat) (x1 : Int64) (x2 : Int) (x3 : Int64) (x4 : Int) (g : G2), XV  g (l_Reader_keepPairs_26 n x0 x1 x2 x3 x4 g) := by
  intro n
  induction n with
  | zero => intros; exact XV.no
  | succ n ih =>
    intro x0 x1 x2 x3 x4 g
    unfold l_Reader_keepPairs_26
    try dsimp only
    first | (split <;> (first  | exact kx_b_Reader_keepPairs_26_0 _ _ _ _ _ _ ih | exact kx_b_Reader_keepPairs_26_1 _ _ _ _ _ _ ih)) | (first  | exact kx_b_Reader_keepPairs_26_0 _ _ _ _ _ _ ih | exact kx_b_Reader_keepPairs_26_1 _ _ _ _ _ _ ih)
set_option maxRecDepth 20000 in
theorem kx_f_Reader_keepPairs_26 (a1 : Int64) (g : G2) : XV  g (f_Reader_keepPairs_26 a1 g) := by
  unfold f_Reader_keepPairs_26
  repeat' (with_reducible first | refine XV.ite ?_ ?_ | refine XV.bd ?_ (fun _ _ _ => ?_) | refine XV.bind ?_ (fun _ _ => ?_) | exact XV.no | refine XV.so ?_ | refine XO.via (kx_l_Reader_keepPairs_26 ..) ?_ | refine XV.via (kx_l_Reader_keepPairs_26 ..) ?_ | assumption | exact KX.rf | refine KX.i rfl ?_ | refine KX.j rfl ?_ | refine KX.a rfl ?_ | refine KX.b rfl ?_ | refine KX.c rfl ?_)
set_option maxRecDepth 20000 in
theorem kx_b_Reader_beginAssertion_26_0 (L : Nat → Int → Int64 → Int → G2 → Option (G2)) (i1 : Int) (l2 : Int64) (i4 : Int) (g : G2) (hL : ∀ x0 x1 x2 x3 g, XV  g (L x0 x1 x2 x3 g)) : XV  g (b_Reader_beginAssertion_26_0 L i1 l2 i4 g) := by
  unfold b_Reader_beginAssertion_26_0
  repeat' (with_reducible first | refine XV.ite ?_ ?_ | refine XV.bd ?_ (fun _ _ _ => ?_) | refine XV.bind ?_ (fun _ _ => ?_) | exact XV.no | refine XV.so ?_ | refine XO.via (kx_f_Reader_isActiveHypothesis_26 ..) ?_ | refine XV.via (kx_f_Reader_isActiveHypothesis_26 ..) ?_ | refine XO.via (kx_f_Reader_keepPairs_26 ..) ?_ | refine XV.via (kx_f_Reader_keepPairs_26 ..) ?_ | refine XV.via (hL ..) ?_ | assumption | exact KX.rf | refine KX.i rfl ?_ | refine KX.j rfl ?_ | refine KX.a rfl ?_ | refine KX.b rfl ?_ | refine KX.c rfl ?_)
set_option maxRecDepth 20000 in
theorem kx_b_Reader_beginAssertion_26_1 (L : Nat → Int → Int64 → Int → G2 → Option (G2)) (i1 : Int) (l2 : Int64) (i4 : Int) (g : G2) (hL : ∀ x0 x1 x2 x3 g, XV  g (L x0 x1 x2 x3 g)) : XV  g (b_Reader_beginAssertion_26_1 L i1 l2 i4 g) := by
  unfold b_Reader_beginAssertion_26_1
  repeat' (with_reducible first | refine XV.ite ?_ ?_ | refine XV.bd ?_ (fun _ _ _ => ?_) | refine XV.bind ?_ (fun _ _ => ?_) | exact XV.no | refine XV.so ?_ | refine XV.via (hL ..) ?_ | assumption | exact KX.rf | refine KX.i rfl ?_ | refine KX.j rfl ?_ | refine KX.a rfl ?_ | refine KX.b rfl ?_ | refine KX.c rfl ?_)
set_option maxRecDepth 20000 in
theorem kx_b_Reader_beginAssertion_26_2 (L : Nat → Int → Int64 → Int → G2 → Option (G2)) (i1 : Int) (l2 : Int64) (i4 : Int) (g : G2) (hL : ∀ x0 x1 x2 x3 g, XV  g (L x0 x1 x2 x3 g)) : XV  g (b_Reader_beginAssertion_26_2 L i1 l2 i4 g) := by
  unfold b_Reader_beginAssertion_26_2
  repeat' (with_reducible first | refine XV.ite ?_ ?_ | refine XV.bd ?_ (fun _ _ _ => ?_) | refine XV.bind ?_ (fun _ _ => ?_) | exact XV.no | refine XV.so ?_ | refine XV.via (hL ..) ?_ | assumption | exact KX.rf | refine KX.i rfl ?_ | refine KX.j rfl ?_ | refine KX.a rfl ?_ | refine KX.b rfl ?_ | refine KX.c rfl ?_)
set_option maxRecDepth 20000 in
theorem kx_l_Reader_beginAssertion_26 : ∀ (n : Nat) (x0 : Nat) (x1 : Int) (x2 : Int64) (x3 : Int) (g : G2), XV  g (l_Reader_beginAssertion_26 n x0 x1 x2 x3 g) := by
  intro n
  induction n with
  | zero => intros; exact XV.no
  | succ n ih =>
    intro x0 x1 x2 x3 g
    unfold l_Reader_beginAssertion_26
    try dsimp only
    first | (split <;> (first  | exact kx_b_Reader_beginAssertion_26_0 _ _ _ _ _ ih | exact kx_b_Reader_beginAssertion_26_1 _ _ _ _ _ ih | exact kx_b_Reader_beginAssertion_26_2 _ _ _ _ _ ih)) | (first  | exact kx_b_Reader_beginAssertion_26_0 _ _ _ _ _ ih | exact kx_b_Reader_beginAssertion_26_1 _ _ _ _ _ ih | exact kx_b_Reader_beginAssertion_26_2 _ _ _ _ _ ih)
set_option maxRecDepth 20000 in
theorem kx_f_Reader_beginAssertion_26 (a1 : Int) (g : G2) : XV  g (f_Reader_beginAssertion_26 a1 g) := by
  unfold f_Reader_beginAssertion_26
  repeat' (with_reducible first | refine XV.ite ?_ ?_ | refine XV.bd ?_ (fun _ _ _ => ?_) | refine XV.bind ?_ (fun _ _ => ?_) | exact XV.no | refine XV.so ?_ | refine XO.via (kx_f_Assertions_start_17 ..) ?_ | refine XV.via (kx_f_Assertions_start_17 ..) ?_ | refine XO.via (kx_f_Reader_mandatoryVariables_26 ..) ?_ | refine XV.via (kx_f_Reader_mandatoryVariables_26 ..) ?_ | refine XO.via (kx_l_Reader_beginAssertion_26 ..) ?_ | refine XV.via (kx_l_Reader_beginAssertion_26 ..) ?_ | assumption | exact KX.rf | refine KX.i rfl ?_ | refine KX.j rfl ?_ | refine KX.a rfl ?_ | refine KX.b rfl ?_ | refine KX.c rfl ?_)
set_option maxRecDepth 20000 in
theorem kx_f_Proof_begin_34 (g : G2) : XV  g (f_Proof_begin_34 g) := by
  unfold f_Proof_begin_34
  repeat' (with_reducible first | refine XV.ite ?_ ?_ | refine XV.bd ?_ (fun _ _ _ => ?_) | refine XV.bind ?_ (fun _ _ => ?_) | exact XV.no | refine XV.so ?_ | assumption | exact KX.rf | refine KX.i rfl ?_ | refine KX.j rfl ?_ | refine KX.a rfl ?_ | refine KX.b rfl ?_ | refine KX.c rfl ?_)
set_option maxRecDepth 20000 in
theorem kx_f_Reader_endSymbols_26 (a1 : Int) (g : G2) : XO  g (f_Reader_endSymbols_26 a1 g) := by
  unfold f_Reader_endSymbols_26
  repeat' (with_reducible first | refine XO.ite ?_ ?_ | refine XO.bd ?_ (fun _ _ _ => ?_) | refine XO.bind ?_ (fun _ _ => ?_) | exact XO.no | refine XO.so ?_ | refine XO.via (kx_f_Proof_begin_34 ..) ?_ | refine XV.via (kx_f_Proof_begin_34 ..) ?_ | refine XO.via (kx_f_Reader_beginAssertion_26 ..) ?_ | refine XV.via (kx_f_Reader_beginAssertion_26 ..) ?_ | refine XO.via (kx_f_Reader_declare_26 ..) ?_ | refine XV.via (kx_f_Reader_declare_26 ..) ?_ | refine XO.via (kx_f_Statements_isHypothesis_8 ..) ?_ | refine XV.via (kx_f_Statements_isHypothesis_8 ..) ?_ | assumption | exact KX.rf | refine KX.i rfl ?_ | refine KX.j rfl ?_ | refine KX.a rfl ?_ | refine KX.b rfl ?_ | refine KX.c rfl ?_)
set_option maxRecDepth 20000 in
theorem kx_b_Expressions_isSame_35_11_0 (L : Nat → Int → Int → Int → G2 → Option (Int × G2)) (i1 : Int) (i3 : Int) (i4 : Int) (g : G2) (hL : ∀ x0 x1 x2 x3 g, XO  g (L x0 x1 x2 x3 g)) : XO  g (b_Expressions_isSame_35_11_0 L i1 i3 i4 g) := by
  unfold b_Expressions_isSame_35_11_0
  repeat' (with_reducible first | refine XO.ite ?_ ?_ | refine XO.bd ?_ (fun _ _ _ => ?_) | refine XO.bind ?_ (fun _ _ => ?_) | exact XO.no | refine XO.so ?_ | refine XO.via (hL ..) ?_ | assumption | exact KX.rf | refine KX.i rfl ?_ | refine KX.j rfl ?_ | refine KX.a rfl ?_ | refine KX.b rfl ?_ | refine KX.c rfl ?_)
set_option maxRecDepth 20000 in
theorem kx_l_Expressions_isSame_35_11 : ∀ (n : Nat) (x0 : Nat) (x1 : Int) (x2 : Int) (x3 : Int) (g : G2), XO  g (l_Expressions_isSame_35_11 n x0 x1 x2 x3 g) := by
  intro n
  induction n with
  | zero => intros; exact XO.no
  | succ n ih =>
    intro x0 x1 x2 x3 g
    unfold l_Expressions_isSame_35_11
    try dsimp only
    first | (split <;> (first  | exact kx_b_Expressions_isSame_35_11_0 _ _ _ _ _ ih)) | (first  | exact kx_b_Expressions_isSame_35_11_0 _ _ _ _ _ ih)
set_option maxRecDepth 20000 in
theorem kx_f_Expressions_isSame_35_11 (a1 : Int) (a3 : Int) (g : G2) : XO  g (f_Expressions_isSame_35_11 a1 a3 g) := by
  unfold f_Expressions_isSame_35_11
  repeat' (with_reducible first | refine XO.ite ?_ ?_ | refine XO.bd ?_ (fun _ _ _ => ?_) | refine XO.bind ?_ (fun _ _ => ?_) | exact XO.no | refine XO.so ?_ | refine XO.via (kx_l_Expressions_isSame_35_11 ..) ?_ | refine XV.via (kx_l_Expressions_isSame_35_11 ..) ?_ | assumption | exact KX.rf | refine KX.i rfl ?_ | refine KX.j rfl ?_ | refine KX.a rfl ?_ | refine KX.b rfl ?_ | refine KX.c rfl ?_)
set_option maxRecDepth 20000 in
theorem kx_f_Proof_finish_34 (a1 : Int) (g : G2) : XO  g (f_Proof_finish_34 a1 g) := by
  unfold f_Proof_finish_34
  repeat' (with_reducible first | refine XO.ite ?_ ?_ | refine XO.bd ?_ (fun _ _ _ => ?_) | refine XO.bind ?_ (fun _ _ => ?_) | exact XO.no | refine XO.so ?_ | refine XO.via (kx_f_Expressions_isSame_35_11 ..) ?_ | refine XV.via (kx_f_Expressions_isSame_35_11 ..) ?_ | assumption | exact KX.rf | refine KX.i rfl ?_ | refine KX.j rfl ?_ | refine KX.a rfl ?_ | refine KX.b rfl ?_ | refine KX.c rfl ?_)
set_option maxRecDepth 20000 in
theorem kx_f_Reader_endProof_26 (g : G2) : XO  g (f_Reader_endProof_26 g) := by
  unfold f_Reader_endProof_26
  repeat' (with_reducible first | refine XO.ite ?_ ?_ | refine XO.bd ?_ (fun _ _ _ => ?_) | refine XO.bind ?_ (fun _ _ => ?_) | exact XO.no | refine XO.so ?_ | refine XO.via (kx_f_Proof_finish_34 ..) ?_ | refine XV.via (kx_f_Proof_finish_34 ..) ?_ | refine XO.via (kx_f_Reader_declare_26 ..) ?_ | refine XV.via (kx_f_Reader_declare_26 ..) ?_ | assumption | exact KX.rf | refine KX.i rfl ?_ | refine KX.j rfl ?_ | refine KX.a rfl ?_ | refine KX.b rfl ?_ | refine KX.c rfl ?_)
set_option maxRecDepth 20000 in
theorem kx_f_Reader_takeKeyword_26_2 (g : G2) : XO  g (f_Reader_takeKeyword_26_2 g) := by
  unfold f_Reader_takeKeyword_26_2
  repeat' (with_reducible first | refine XO.ite ?_ ?_ | refine XO.bd ?_ (fun _ _ _ => ?_) | refine XO.bind ?_ (fun _ _ => ?_) | exact XO.no | refine XO.so ?_ | refine XO.via (kx_f_Reader_beginUnlabelled_26 ..) ?_ | refine XV.via (kx_f_Reader_beginUnlabelled_26 ..) ?_ | refine XO.via (kx_f_Reader_declare_26 ..) ?_ | refine XV.via (kx_f_Reader_declare_26 ..) ?_ | refine XO.via (kx_f_Reader_endNames_26 ..) ?_ | refine XV.via (kx_f_Reader_endNames_26 ..) ?_ | refine XO.via (kx_f_Reader_endProof_26 ..) ?_ | refine XV.via (kx_f_Reader_endProof_26 ..) ?_ | refine XO.via (kx_f_Reader_endSymbols_26 ..) ?_ | refine XV.via (kx_f_Reader_endSymbols_26 ..) ?_ | refine XO.via (kx_f_Reader_takeKind_26 ..) ?_ | refine XV.via (kx_f_Reader_takeKind_26 ..) ?_ | refine XO.via (kx_f_Text_keyword_2 ..) ?_ | refine XV.via (kx_f_Text_keyword_2 ..) ?_ | assumption | exact KX.rf | refine KX.i rfl ?_ | refine KX.j rfl ?_ | refine KX.a rfl ?_ | refine KX.b rfl ?_ | refine KX.c rfl ?_)
set_option maxRecDepth 20000 in
theorem kx_b_L_read_1_0 (L : Nat → Int → Int → G2 → Option (Int × G2)) (i1 : Int) (i2 : Int) (g : G2) (hL : ∀ x0 x1 x2 g, XO  g (L x0 x1 x2 g)) : XO  g (b_L_read_1_0 L i1 i2 g) := by
  unfold b_L_read_1_0
  repeat' (with_reducible first | refine XO.ite ?_ ?_ | refine XO.bd ?_ (fun _ _ _ => ?_) | refine XO.bind ?_ (fun _ _ => ?_) | exact XO.no | refine XO.so ?_ | refine XO.via (kx_f_Reader_takeKeyword_26_2 ..) ?_ | refine XV.via (kx_f_Reader_takeKeyword_26_2 ..) ?_ | refine XO.via (kx_f_Reader_takeName_26_2 ..) ?_ | refine XV.via (kx_f_Reader_takeName_26_2 ..) ?_ | refine XO.via (kx_f_Text_advance_2 ..) ?_ | refine XV.via (kx_f_Text_advance_2 ..) ?_ | refine XO.via (hL ..) ?_ | assumption | exact KX.rf | refine KX.i rfl ?_ | refine KX.j rfl ?_ | refine KX.a rfl ?_ | refine KX.b rfl ?_ | refine KX.c rfl ?_)
set_option maxRecDepth 20000 in
theorem kx_b_L_read_1_1 (L : Nat → Int → Int → G2 → Option (Int × G2)) (i1 : Int) (i2 : Int) (g : G2) (hL : ∀ x0 x1 x2 g, XO  g (L x0 x1 x2 g)) : XO  g (b_L_read_1_1 L i1 i2 g) := by
  unfold b_L_read_1_1
  repeat' (with_reducible first | refine XO.ite ?_ ?_ | refine XO.bd ?_ (fun _ _ _ => ?_) | refine XO.bind ?_ (fun _ _ => ?_) | exact XO.no | refine XO.so ?_ | refine XO.via (kx_f_Reader_isInside_26 ..) ?_ | refine XV.via (kx_f_Reader_isInside_26 ..) ?_ | refine XO.via (hL ..) ?_ | assumption | exact KX.rf | refine KX.i rfl ?_ | refine KX.j rfl ?_ | refine KX.a rfl ?_ | refine KX.b rfl ?_ | refine KX.c rfl ?_)
set_option maxRecDepth 20000 in
theorem kx_b_L_read_1_2 (L : Nat → Int → Int → G2 → Option (Int × G2)) (i1 : Int) (i2 : Int) (g : G2) (hL : ∀ x0 x1 x2 g, XO  g (L x0 x1 x2 g)) : XO  g (b_L_read_1_2 L i1 i2 g) := by
  unfold b_L_read_1_2
  repeat' (with_reducible first | refine XO.ite ?_ ?_ | refine XO.bd ?_ (fun _ _ _ => ?_) | refine XO.bind ?_ (fun _ _ => ?_) | exact XO.no | refine XO.so ?_ | refine XO.via (hL ..) ?_ | assumption | exact KX.rf | refine KX.i rfl ?_ | refine KX.j rfl ?_ | refine KX.a rfl ?_ | refine KX.b rfl ?_ | refine KX.c rfl ?_)
set_option maxRecDepth 20000 in
theorem kx_b_L_read_1_3 (L : Nat → Int → Int → G2 → Option (Int × G2)) (i1 : Int) (i2 : Int) (g : G2) (hL : ∀ x0 x1 x2 g, XO  g (L x0 x1 x2 g)) : XO  g (b_L_read_1_3 L i1 i2 g) := by
  unfold b_L_read_1_3
  repeat' (with_reducible first | refine XO.ite ?_ ?_ | refine XO.bd ?_ (fun _ _ _ => ?_) | refine XO.bind ?_ (fun _ _ => ?_) | exact XO.no | refine XO.so ?_ | refine XO.via (hL ..) ?_ | assumption | exact KX.rf | refine KX.i rfl ?_ | refine KX.j rfl ?_ | refine KX.a rfl ?_ | refine KX.b rfl ?_ | refine KX.c rfl ?_)
set_option maxRecDepth 20000 in
theorem kx_l_L_read_1 : ∀ (n : Nat) (x0 : Nat) (x1 : Int) (x2 : Int) (g : G2), XO  g (l_L_read_1 n x0 x1 x2 g) := by
  intro n
  induction n with
  | zero => intros; exact XO.no
  | succ n ih =>
    intro x0 x1 x2 g
    unfold l_L_read_1
    try dsimp only
    first | (split <;> (first  | exact kx_b_L_read_1_0 _ _ _ _ ih | exact kx_b_L_read_1_1 _ _ _ _ ih | exact kx_b_L_read_1_2 _ _ _ _ ih | exact kx_b_L_read_1_3 _ _ _ _ ih)) | (first  | exact kx_b_L_read_1_0 _ _ _ _ ih | exact kx_b_L_read_1_1 _ _ _ _ ih | exact kx_b_L_read_1_2 _ _ _ _ ih | exact kx_b_L_read_1_3 _ _ _ _ ih)
set_option maxRecDepth 20000 in
theorem kx_f_L_read_1 (g : G2) : XO  g (f_L_read_1 g) := by
  unfold f_L_read_1
  repeat' (with_reducible first | refine XO.ite ?_ ?_ | refine XO.bd ?_ (fun _ _ _ => ?_) | refine XO.bind ?_ (fun _ _ => ?_) | exact XO.no | refine XO.so ?_ | refine XO.via (kx_f_Reader_begin_26 ..) ?_ | refine XV.via (kx_f_Reader_begin_26 ..) ?_ | refine XO.via (kx_f_Text_rewind_2 ..) ?_ | refine XV.via (kx_f_Text_rewind_2 ..) ?_ | refine XO.via (kx_l_L_read_1 ..) ?_ | refine XV.via (kx_l_L_read_1 ..) ?_ | assumption | exact KX.rf | refine KX.i rfl ?_ | refine KX.j rfl ?_ | refine KX.a rfl ?_ | refine KX.b rfl ?_ | refine KX.c rfl ?_)
set_option maxRecDepth 20000 in
theorem kx_b_M_findWords_50_0 (L : Nat → Int → Int → G2 → Option (G2)) (i1 : Int) (i2 : Int) (g : G2) (hL : ∀ x0 x1 x2 g, XV  g (L x0 x1 x2 g)) : XV  g (b_M_findWords_50_0 L i1 i2 g) := by
  unfold b_M_findWords_50_0
  repeat' (with_reducible first | refine XV.ite ?_ ?_ | refine XV.bd ?_ (fun _ _ _ => ?_) | refine XV.bind ?_ (fun _ _ => ?_) | exact XV.no | refine XV.so ?_ | refine XV.via (hL ..) ?_ | assumption | exact KX.rf | refine KX.i rfl ?_ | refine KX.j rfl ?_ | refine KX.a rfl ?_ | refine KX.b rfl ?_ | refine KX.c rfl ?_)
set_option maxRecDepth 20000 in
theorem kx_l_M_findWords_50 : ∀ (n : Nat) (x0 : Nat) (x1 : Int) (x2 : Int) (g : G2), XV  g (l_M_findWords_50 n x0 x1 x2 g) := by
  intro n
  induction n with
  | zero => intros; exact XV.no
  | succ n ih =>
    intro x0 x1 x2 g
    unfold l_M_findWords_50
    try dsimp only
    first | (split <;> (first  | exact kx_b_M_findWords_50_0 _ _ _ _ ih)) | (first  | exact kx_b_M_findWords_50_0 _ _ _ _ ih)
set_option maxRecDepth 20000 in
theorem kx_f_M_findWords_50 (g : G2) : XV  g (f_M_findWords_50 g) := by
  unfold f_M_findWords_50
  repeat' (with_reducible first | refine XV.ite ?_ ?_ | refine XV.bd ?_ (fun _ _ _ => ?_) | refine XV.bind ?_ (fun _ _ => ?_) | exact XV.no | refine XV.so ?_ | refine XO.via (kx_l_M_findWords_50 ..) ?_ | refine XV.via (kx_l_M_findWords_50 ..) ?_ | assumption | exact KX.rf | refine KX.i rfl ?_ | refine KX.j rfl ?_ | refine KX.a rfl ?_ | refine KX.b rfl ?_ | refine KX.c rfl ?_)
set_option maxRecDepth 20000 in
theorem kx_f_M_letter_50 (a1 : Int) (a2 : Int) (g : G2) : XO  g (f_M_letter_50 a1 a2 g) := by
  unfold f_M_letter_50
  repeat' (with_reducible first | refine XO.ite ?_ ?_ | refine XO.bd ?_ (fun _ _ _ => ?_) | refine XO.bind ?_ (fun _ _ => ?_) | exact XO.no | refine XO.so ?_ | assumption | exact KX.rf | refine KX.i rfl ?_ | refine KX.j rfl ?_ | refine KX.a rfl ?_ | refine KX.b rfl ?_ | refine KX.c rfl ?_)
set_option maxRecDepth 20000 in
theorem kx_f_M_isTwo_50 (a1 : Int) (a2 : Int) (a3 : Int) (g : G2) : XO  g (f_M_isTwo_50 a1 a2 a3 g) := by
  unfold f_M_isTwo_50
  repeat' (with_reducible first | refine XO.ite ?_ ?_ | refine XO.bd ?_ (fun _ _ _ => ?_) | refine XO.bind ?_ (fun _ _ => ?_) | exact XO.no | refine XO.so ?_ | refine XO.via (kx_f_M_letter_50 ..) ?_ | refine XV.via (kx_f_M_letter_50 ..) ?_ | assumption | exact KX.rf | refine KX.i rfl ?_ | refine KX.j rfl ?_ | refine KX.a rfl ?_ | refine KX.b rfl ?_ | refine KX.c rfl ?_)
set_option maxRecDepth 20000 in
theorem kx_f_M_fail_50 (a1 : Int) (a2 : Int) (g : G2) : XV  g (f_M_fail_50 a1 a2 g) := by
  unfold f_M_fail_50
  repeat' (with_reducible first | refine XV.ite ?_ ?_ | refine XV.bd ?_ (fun _ _ _ => ?_) | refine XV.bind ?_ (fun _ _ => ?_) | exact XV.no | refine XV.so ?_ | assumption | exact KX.rf | refine KX.i rfl ?_ | refine KX.j rfl ?_ | refine KX.a rfl ?_ | refine KX.b rfl ?_ | refine KX.c rfl ?_)
set_option maxRecDepth 20000 in
theorem kx_b_M_come_50_0 (L : Nat → G2 → Option (Int × G2)) (g : G2) (hL : ∀ x0 g, XO  g (L x0 g)) : XO  g (b_M_come_50_0 L g) := by
  unfold b_M_come_50_0
  repeat' (with_reducible first | refine XO.ite ?_ ?_ | refine XO.bd ?_ (fun _ _ _ => ?_) | refine XO.bind ?_ (fun _ _ => ?_) | exact XO.no | refine XO.so ?_ | refine XO.via (kx_f_M_isTwo_50 ..) ?_ | refine XV.via (kx_f_M_isTwo_50 ..) ?_ | refine XO.via (hL ..) ?_ | assumption | exact KX.rf | refine KX.i rfl ?_ | refine KX.j rfl ?_ | refine KX.a rfl ?_ | refine KX.b rfl ?_ | refine KX.c rfl ?_)
set_option maxRecDepth 20000 in
theorem kx_b_M_come_50_1 (L : Nat → G2 → Option (Int × G2)) (g : G2) (hL : ∀ x0 g, XO  g (L x0 g)) : XO  g (b_M_come_50_1 L g) := by
  unfold b_M_come_50_1
  repeat' (with_reducible first | refine XO.ite ?_ ?_ | refine XO.bd ?_ (fun _ _ _ => ?_) | refine XO.bind ?_ (fun _ _ => ?_) | exact XO.no | refine XO.so ?_ | refine XO.via (kx_f_M_isTwo_50 ..) ?_ | refine XV.via (kx_f_M_isTwo_50 ..) ?_ | refine XO.via (hL ..) ?_ | assumption | exact KX.rf | refine KX.i rfl ?_ | refine KX.j rfl ?_ | refine KX.a rfl ?_ | refine KX.b rfl ?_ | refine KX.c rfl ?_)
set_option maxRecDepth 20000 in
theorem kx_b_M_come_50_2 (L : Nat → G2 → Option (Int × G2)) (g : G2) (hL : ∀ x0 g, XO  g (L x0 g)) : XO  g (b_M_come_50_2 L g) := by
  unfold b_M_come_50_2
  repeat' (with_reducible first | refine XO.ite ?_ ?_ | refine XO.bd ?_ (fun _ _ _ => ?_) | refine XO.bind ?_ (fun _ _ => ?_) | exact XO.no | refine XO.so ?_ | refine XO.via (kx_f_M_fail_50 ..) ?_ | refine XV.via (kx_f_M_fail_50 ..) ?_ | refine XO.via (hL ..) ?_ | assumption | exact KX.rf | refine KX.i rfl ?_ | refine KX.j rfl ?_ | refine KX.a rfl ?_ | refine KX.b rfl ?_ | refine KX.c rfl ?_)
set_option maxRecDepth 20000 in
theorem kx_b_M_come_50_3 (L : Nat → G2 → Option (Int × G2)) (g : G2) (hL : ∀ x0 g, XO  g (L x0 g)) : XO  g (b_M_come_50_3 L g) := by
  unfold b_M_come_50_3
  repeat' (with_reducible first | refine XO.ite ?_ ?_ | refine XO.bd ?_ (fun _ _ _ => ?_) | refine XO.bind ?_ (fun _ _ => ?_) | exact XO.no | refine XO.so ?_ | refine XO.via (kx_f_M_fail_50 ..) ?_ | refine XV.via (kx_f_M_fail_50 ..) ?_ | refine XO.via (hL ..) ?_ | assumption | exact KX.rf | refine KX.i rfl ?_ | refine KX.j rfl ?_ | refine KX.a rfl ?_ | refine KX.b rfl ?_ | refine KX.c rfl ?_)
set_option maxRecDepth 20000 in
theorem kx_b_M_come_50_4 (L : Nat → G2 → Option (Int × G2)) (g : G2) (hL : ∀ x0 g, XO  g (L x0 g)) : XO  g (b_M_come_50_4 L g) := by
  unfold b_M_come_50_4
  repeat' (with_reducible first | refine XO.ite ?_ ?_ | refine XO.bd ?_ (fun _ _ _ => ?_) | refine XO.bind ?_ (fun _ _ => ?_) | exact XO.no | refine XO.so ?_ | refine XO.via (hL ..) ?_ | assumption | exact KX.rf | refine KX.i rfl ?_ | refine KX.j rfl ?_ | refine KX.a rfl ?_ | refine KX.b rfl ?_ | refine KX.c rfl ?_)
set_option maxRecDepth 20000 in
theorem kx_l_M_come_50 : ∀ (n : Nat) (x0 : Nat) (g : G2), XO  g (l_M_come_50 n x0 g) := by
  intro n
  induction n with
  | zero => intros; exact XO.no
  | succ n ih =>
    intro x0 g
    unfold l_M_come_50
    try dsimp only
    first | (split <;> (first  | exact kx_b_M_come_50_0 _ _ ih | exact kx_b_M_come_50_1 _ _ ih | exact kx_b_M_come_50_2 _ _ ih | exact kx_b_M_come_50_3 _ _ ih | exact kx_b_M_come_50_4 _ _ ih)) | (first  | exact kx_b_M_come_50_0 _ _ ih | exact kx_b_M_come_50_1 _ _ ih | exact kx_b_M_come_50_2 _ _ ih | exact kx_b_M_come_50_3 _ _ ih | exact kx_b_M_come_50_4 _ _ ih)
set_option maxRecDepth 20000 in
theorem kx_f_M_come_50 (g : G2) : XO  g (f_M_come_50 g) := by
  unfold f_M_come_50
  repeat' (with_reducible first | refine XO.ite ?_ ?_ | refine XO.bd ?_ (fun _ _ _ => ?_) | refine XO.bind ?_ (fun _ _ => ?_) | exact XO.no | refine XO.so ?_ | refine XO.via (kx_l_M_come_50 ..) ?_ | refine XV.via (kx_l_M_come_50 ..) ?_ | assumption | exact KX.rf | refine KX.i rfl ?_ | refine KX.j rfl ?_ | refine KX.a rfl ?_ | refine KX.b rfl ?_ | refine KX.c rfl ?_)
set_option maxRecDepth 20000 in
theorem kx_b_M_whatIs_50_0 (L : Nat → Int → Int → Int → G2 → Option (Int × G2)) (i1 : Int) (i2 : Int) (i3 : Int) (g : G2) (hL : ∀ x0 x1 x2 x3 g, XO  g (L x0 x1 x2 x3 g)) : XO  g (b_M_whatIs_50_0 L i1 i2 i3 g) := by
  unfold b_M_whatIs_50_0
  repeat' (with_reducible first | refine XO.ite ?_ ?_ | refine XO.bd ?_ (fun _ _ _ => ?_) | refine XO.bind ?_ (fun _ _ => ?_) | exact XO.no | refine XO.so ?_ | refine XO.via (kx_f_M_letter_50 ..) ?_ | refine XV.via (kx_f_M_letter_50 ..) ?_ | refine XO.via (hL ..) ?_ | assumption | exact KX.rf | refine KX.i rfl ?_ | refine KX.j rfl ?_ | refine KX.a rfl ?_ | refine KX.b rfl ?_ | refine KX.c rfl ?_)
set_option maxRecDepth 20000 in
theorem kx_b_M_whatIs_50_1 (L : Nat → Int → Int → Int → G2 → Option (Int × G2)) (i1 : Int) (i2 : Int) (i3 : Int) (g : G2) (hL : ∀ x0 x1 x2 x3 g, XO  g (L x0 x1 x2 x3 g)) : XO  g (b_M_whatIs_50_1 L i1 i2 i3 g) := by
  unfold b_M_whatIs_50_1
  repeat' (with_reducible first | refine XO.ite ?_ ?_ | refine XO.bd ?_ (fun _ _ _ => ?_) | refine XO.bind ?_ (fun _ _ => ?_) | exact XO.no | refine XO.so ?_ | refine XO.via (hL ..) ?_ | assumption | exact KX.rf | refine KX.i rfl ?_ | refine KX.j rfl ?_ | refine KX.a rfl ?_ | refine KX.b rfl ?_ | refine KX.c rfl ?_)
set_option maxRecDepth 20000 in
theorem kx_l_M_whatIs_50 : ∀ (n : Nat) (x0 : Nat) (x1 : Int) (x2 : Int) (x3 : Int) (g : G2), XO  g (l_M_whatIs_50 n x0 x1 x2 x3 g) := by
  intro n
  induction n with
  | zero => intros; exact XO.no
  | succ n ih =>
    intro x0 x1 x2 x3 g
    unfold l_M_whatIs_50
    try dsimp only
    first | (split <;> (first  | exact kx_b_M_whatIs_50_0 _ _ _ _ _ ih | exact kx_b_M_whatIs_50_1 _ _ _ _ _ ih)) | (first  | exact kx_b_M_whatIs_50_0 _ _ _ _ _ ih | exact kx_b_M_whatIs_50_1 _ _ _ _ _ ih)
set_option maxRecDepth 20000 in
theorem kx_f_M_whatIs_50 (a1 : Int) (g : G2) : XO  g (f_M_whatIs_50 a1 g) := by
  unfold f_M_whatIs_50
  repeat' (with_reducible first | refine XO.ite ?_ ?_ | refine XO.bd ?_ (fun _ _ _ => ?_) | refine XO.bind ?_ (fun _ _ => ?_) | exact XO.no | refine XO.so ?_ | refine XO.via (kx_l_M_whatIs_50 ..) ?_ | refine XV.via (kx_l_M_whatIs_50 ..) ?_ | assumption | exact KX.rf | refine KX.i rfl ?_ | refine KX.j rfl ?_ | refine KX.a rfl ?_ | refine KX.b rfl ?_ | refine KX.c rfl ?_)
set_option maxRecDepth 20000 in
theorem kx_b_M_codeOf_50_0 (L : Nat → Int → Int64 → Int → G2 → Option (Int64 × G2)) (i1 : Int) (l2 : Int64) (i4 : Int) (g : G2) (hL : ∀ x0 x1 x2 x3 g, XO  g (L x0 x1 x2 x3 g)) : XO  g (b_M_codeOf_50_0 L i1 l2 i4 g) := by
  unfold b_M_codeOf_50_0
  repeat' (with_reducible first | refine XO.ite ?_ ?_ | refine XO.bd ?_ (fun _ _ _ => ?_) | refine XO.bind ?_ (fun _ _ => ?_) | exact XO.no | refine XO.so ?_ | refine XO.via (kx_f_M_letter_50 ..) ?_ | refine XV.via (kx_f_M_letter_50 ..) ?_ | refine XO.via (hL ..) ?_ | assumption | exact KX.rf | refine KX.i rfl ?_ | refine KX.j rfl ?_ | refine KX.a rfl ?_ | refine KX.b rfl ?_ | refine KX.c rfl ?_)
set_option maxRecDepth 20000 in
theorem kx_l_M_codeOf_50 : ∀ (n : Nat) (x0 : Nat) (x1 : Int) (x2 : Int64) (x3 : Int) (g : G2), XO  g (l_M_codeOf_50 n x0 x1 x2 x3 g) := by
  intro n
  induction n with
  | zero => intros; exact XO.no
  | succ n ih =>
    intro x0 x1 x2 x3 g
    unfold l_M_codeOf_50
    try dsimp only
    first | (split <;> (first  | exact kx_b_M_codeOf_50_0 _ _ _ _ _ ih)) | (first  | exact kx_b_M_codeOf_50_0 _ _ _ _ _ ih)
set_option maxRecDepth 20000 in
theorem kx_f_M_codeOf_50 (a1 : Int) (g : G2) : XO  g (f_M_codeOf_50 a1 g) := by
  unfold f_M_codeOf_50
  repeat' (with_reducible first | refine XO.ite ?_ ?_ | refine XO.bd ?_ (fun _ _ _ => ?_) | refine XO.bind ?_ (fun _ _ => ?_) | exact XO.no | refine XO.so ?_ | refine XO.via (kx_l_M_codeOf_50 ..) ?_ | refine XV.via (kx_l_M_codeOf_50 ..) ?_ | assumption | exact KX.rf | refine KX.i rfl ?_ | refine KX.j rfl ?_ | refine KX.a rfl ?_ | refine KX.b rfl ?_ | refine KX.c rfl ?_)
set_option maxRecDepth 20000 in
theorem kx_b_M_find_50_0 (L : Nat → Int64 → Int → G2 → Option (Int × G2)) (l1 : Int64) (i3 : Int) (g : G2) (hL : ∀ x0 x1 x2 g, XO  g (L x0 x1 x2 g)) : XO  g (b_M_find_50_0 L l1 i3 g) := by
  unfold b_M_find_50_0
  repeat' (with_reducible first | refine XO.ite ?_ ?_ | refine XO.bd ?_ (fun _ _ _ => ?_) | refine XO.bind ?_ (fun _ _ => ?_) | exact XO.no | refine XO.so ?_ | refine XO.via (hL ..) ?_ | assumption | exact KX.rf | refine KX.i rfl ?_ | refine KX.j rfl ?_ | refine KX.a rfl ?_ | refine KX.b rfl ?_ | refine KX.c rfl ?_)
set_option maxRecDepth 20000 in
theorem kx_l_M_find_50 : ∀ (n : Nat) (x0 : Nat) (x1 : Int64) (x2 : Int) (g : G2), XO  g (l_M_find_50 n x0 x1 x2 g) := by
  intro n
  induction n with
  | zero => intros; exact XO.no
  | succ n ih =>
    intro x0 x1 x2 g
    unfold l_M_find_50
    try dsimp only
    first | (split <;> (first  | exact kx_b_M_find_50_0 _ _ _ _ ih)) | (first  | exact kx_b_M_find_50_0 _ _ _ _ ih)
set_option maxRecDepth 20000 in
theorem kx_f_M_find_50 (a1 : Int64) (g : G2) : XO  g (f_M_find_50 a1 g) := by
  unfold f_M_find_50
  repeat' (with_reducible first | refine XO.ite ?_ ?_ | refine XO.bd ?_ (fun _ _ _ => ?_) | refine XO.bind ?_ (fun _ _ => ?_) | exact XO.no | refine XO.so ?_ | refine XO.via (kx_l_M_find_50 ..) ?_ | refine XV.via (kx_l_M_find_50 ..) ?_ | assumption | exact KX.rf | refine KX.i rfl ?_ | refine KX.j rfl ?_ | refine KX.a rfl ?_ | refine KX.b rfl ?_ | refine KX.c rfl ?_)
set_option maxRecDepth 20000 in
theorem kx_f_M_need_50 (g : G2) : XO  g (f_M_need_50 g) := by
  unfold f_M_need_50
  repeat' (with_reducible first | refine XO.ite ?_ ?_ | refine XO.bd ?_ (fun _ _ _ => ?_) | refine XO.bind ?_ (fun _ _ => ?_) | exact XO.no | refine XO.so ?_ | refine XO.via (kx_f_M_come_50 ..) ?_ | refine XV.via (kx_f_M_come_50 ..) ?_ | refine XO.via (kx_f_M_fail_50 ..) ?_ | refine XV.via (kx_f_M_fail_50 ..) ?_ | refine XO.via (kx_f_M_whatIs_50 ..) ?_ | refine XV.via (kx_f_M_whatIs_50 ..) ?_ | assumption | exact KX.rf | refine KX.i rfl ?_ | refine KX.j rfl ?_ | refine KX.a rfl ?_ | refine KX.b rfl ?_ | refine KX.c rfl ?_)
set_option maxRecDepth 20000 in
theorem kx_f_M_needName_50 (g : G2) : XO  g (f_M_needName_50 g) := by
  unfold f_M_needName_50
  repeat' (with_reducible first | refine XO.ite ?_ ?_ | refine XO.bd ?_ (fun _ _ _ => ?_) | refine XO.bind ?_ (fun _ _ => ?_) | exact XO.no | refine XO.so ?_ | refine XO.via (kx_f_M_fail_50 ..) ?_ | refine XV.via (kx_f_M_fail_50 ..) ?_ | refine XO.via (kx_f_M_need_50 ..) ?_ | refine XV.via (kx_f_M_need_50 ..) ?_ | assumption | exact KX.rf | refine KX.i rfl ?_ | refine KX.j rfl ?_ | refine KX.a rfl ?_ | refine KX.b rfl ?_ | refine KX.c rfl ?_)
set_option maxRecDepth 20000 in
theorem kx_f_M_findWord_50 (g : G2) : XO  g (f_M_findWord_50 g) := by
  unfold f_M_findWord_50
  repeat' (with_reducible first | refine XO.ite ?_ ?_ | refine XO.bd ?_ (fun _ _ _ => ?_) | refine XO.bind ?_ (fun _ _ => ?_) | exact XO.no | refine XO.so ?_ | refine XO.via (kx_f_M_codeOf_50 ..) ?_ | refine XV.via (kx_f_M_codeOf_50 ..) ?_ | refine XO.via (kx_f_M_find_50 ..) ?_ | refine XV.via (kx_f_M_find_50 ..) ?_ | assumption | exact KX.rf | refine KX.i rfl ?_ | refine KX.j rfl ?_ | refine KX.a rfl ?_ | refine KX.b rfl ?_ | refine KX.c rfl ?_)
set_option maxRecDepth 20000 in
theorem kx_f_M_isConstant_50 (a1 : Int) (g : G2) : XO  g (f_M_isConstant_50 a1 g) := by
  unfold f_M_isConstant_50
  repeat' (with_reducible first | refine XO.ite ?_ ?_ | refine XO.bd ?_ (fun _ _ _ => ?_) | refine XO.bind ?_ (fun _ _ => ?_) | exact XO.no | refine XO.so ?_ | assumption | exact KX.rf | refine KX.i rfl ?_ | refine KX.j rfl ?_ | refine KX.a rfl ?_ | refine KX.b rfl ?_ | refine KX.c rfl ?_)
set_option maxRecDepth 20000 in
theorem kx_f_M_isLive_50 (a1 : Int) (g : G2) : XO  g (f_M_isLive_50 a1 g) := by
  unfold f_M_isLive_50
  repeat' (with_reducible first | refine XO.ite ?_ ?_ | refine XO.bd ?_ (fun _ _ _ => ?_) | refine XO.bind ?_ (fun _ _ => ?_) | exact XO.no | refine XO.so ?_ | assumption | exact KX.rf | refine KX.i rfl ?_ | refine KX.j rfl ?_ | refine KX.a rfl ?_ | refine KX.b rfl ?_ | refine KX.c rfl ?_)
set_option maxRecDepth 20000 in
theorem kx_f_M_readType_50 (g : G2) : XO  g (f_M_readType_50 g) := by
  unfold f_M_readType_50
  repeat' (with_reducible first | refine XO.ite ?_ ?_ | refine XO.bd ?_ (fun _ _ _ => ?_) | refine XO.bind ?_ (fun _ _ => ?_) | exact XO.no | refine XO.so ?_ | refine XO.via (kx_f_M_fail_50 ..) ?_ | refine XV.via (kx_f_M_fail_50 ..) ?_ | refine XO.via (kx_f_M_findWord_50 ..) ?_ | refine XV.via (kx_f_M_findWord_50 ..) ?_ | refine XO.via (kx_f_M_isConstant_50 ..) ?_ | refine XV.via (kx_f_M_isConstant_50 ..) ?_ | refine XO.via (kx_f_M_isLive_50 ..) ?_ | refine XV.via (kx_f_M_isLive_50 ..) ?_ | refine XO.via (kx_f_M_needName_50 ..) ?_ | refine XV.via (kx_f_M_needName_50 ..) ?_ | assumption | exact KX.rf | refine KX.i rfl ?_ | refine KX.j rfl ?_ | refine KX.a rfl ?_ | refine KX.b rfl ?_ | refine KX.c rfl ?_)
set_option maxRecDepth 20000 in
theorem kx_b_M_typeOf_50_0 (L : Nat → Int → Int → G2 → Option (Int × G2)) (i1 : Int) (i2 : Int) (g : G2) (hL : ∀ x0 x1 x2 g, XO  g (L x0 x1 x2 g)) : XO  g (b_M_typeOf_50_0 L i1 i2 g) := by
  unfold b_M_typeOf_50_0
  repeat' (with_reducible first | refine XO.ite ?_ ?_ | refine XO.bd ?_ (fun _ _ _ => ?_) | refine XO.bind ?_ (fun _ _ => ?_) | exact XO.no | refine XO.so ?_ | refine XO.via (hL ..) ?_ | assumption | exact KX.rf | refine KX.i rfl ?_ | refine KX.j rfl ?_ | refine KX.a rfl ?_ | refine KX.b rfl ?_ | refine KX.c rfl ?_)
set_option maxRecDepth 20000 in
theorem kx_l_M_typeOf_50 : ∀ (n : Nat) (x0 : Nat) (x1 : Int) (x2 : Int) (g : G2), XO  g (l_M_typeOf_50 n x0 x1 x2 g) := by
  intro n
  induction n with
  | zero => intros; exact XO.no
  | succ n ih =>
    intro x0 x1 x2 g
    unfold l_M_typeOf_50
    try dsimp only
    first | (split <;> (first  | exact kx_b_M_typeOf_50_0 _ _ _ _ ih)) | (first  | exact kx_b_M_typeOf_50_0 _ _ _ _ ih)
set_option maxRecDepth 20000 in
theorem kx_f_M_typeOf_50 (a1 : Int) (g : G2) : XO  g (f_M_typeOf_50 a1 g) := by
  unfold f_M_typeOf_50
  repeat' (with_reducible first | refine XO.ite ?_ ?_ | refine XO.bd ?_ (fun _ _ _ => ?_) | refine XO.bind ?_ (fun _ _ => ?_) | exact XO.no | refine XO.so ?_ | refine XO.via (kx_l_M_typeOf_50 ..) ?_ | refine XV.via (kx_l_M_typeOf_50 ..) ?_ | assumption | exact KX.rf | refine KX.i rfl ?_ | refine KX.j rfl ?_ | refine KX.a rfl ?_ | refine KX.b rfl ?_ | refine KX.c rfl ?_)
set_option maxRecDepth 20000 in
theorem kx_f_M_addName_50 (a1 : Int64) (g : G2) : XO  g (f_M_addName_50 a1 g) := by
  unfold f_M_addName_50
  repeat' (with_reducible first | refine XO.ite ?_ ?_ | refine XO.bd ?_ (fun _ _ _ => ?_) | refine XO.bind ?_ (fun _ _ => ?_) | exact XO.no | refine XO.so ?_ | assumption | exact KX.rf | refine KX.i rfl ?_ | refine KX.j rfl ?_ | refine KX.a rfl ?_ | refine KX.b rfl ?_ | refine KX.c rfl ?_)
set_option maxRecDepth 20000 in
theorem kx_b_M_declare_50_0 (L : Nat → Int → Int → Int → G2 → Option (Int × G2)) (i1 : Int) (i4 : Int) (i6 : Int) (g : G2) (hL : ∀ x0 x1 x2 x3 g, XO  g (L x0 x1 x2 x3 g)) : XO  g (b_M_declare_50_0 L i1 i4 i6 g) := by
  unfold b_M_declare_50_0
  repeat' (with_reducible first | refine XO.ite ?_ ?_ | refine XO.bd ?_ (fun _ _ _ => ?_) | refine XO.bind ?_ (fun _ _ => ?_) | exact XO.no | refine XO.so ?_ | refine XO.via (hL ..) ?_ | assumption | exact KX.rf | refine KX.i rfl ?_ | refine KX.j rfl ?_ | refine KX.a rfl ?_ | refine KX.b rfl ?_ | refine KX.c rfl ?_)
set_option maxRecDepth 20000 in
theorem kx_l_M_declare_50 : ∀ (n : Nat) (x0 : Nat) (x1 : Int) (x2 : Int) (x3 : Int) (g : G2), XO  g (l_M_declare_50 n x0 x1 x2 x3 g) := by
  intro n
  induction n with
  | zero => intros; exact XO.no
  | succ n ih =>
    intro x0 x1 x2 x3 g
    unfold l_M_declare_50
    try dsimp only
    first | (split <;> (first  | exact kx_b_M_declare_50_0 _ _ _ _ _ ih)) | (first  | exact kx_b_M_declare_50_0 _ _ _ _ _ ih)
set_option maxRecDepth 20000 in
theorem kx_f_M_declare_50 (a1 : Int) (a2 : Int64) (g : G2) : XO  g (f_M_declare_50 a1 a2 g) := by
  unfold f_M_declare_50
  repeat' (with_reducible first | refine XO.ite ?_ ?_ | refine XO.bd ?_ (fun _ _ _ => ?_) | refine XO.bind ?_ (fun _ _ => ?_) | exact XO.no | refine XO.so ?_ | refine XO.via (kx_f_M_addName_50 ..) ?_ | refine XV.via (kx_f_M_addName_50 ..) ?_ | refine XO.via (kx_l_M_declare_50 ..) ?_ | refine XV.via (kx_l_M_declare_50 ..) ?_ | assumption | exact KX.rf | refine KX.i rfl ?_ | refine KX.j rfl ?_ | refine KX.a rfl ?_ | refine KX.b rfl ?_ | refine KX.c rfl ?_)
set_option maxRecDepth 20000 in
theorem kx_b_M_readFloating_50_0 (L : Nat → Int64 → G2 → Option (G2)) (l1 : Int64) (g : G2) (hL : ∀ x0 x1 g, XV  g (L x0 x1 g)) : XV  g (b_M_readFloating_50_0 L l1 g) := by
  unfold b_M_readFloating_50_0
  repeat' (with_reducible first | refine XV.ite ?_ ?_ | refine XV.bd ?_ (fun _ _ _ => ?_) | refine XV.bind ?_ (fun _ _ => ?_) | exact XV.no | refine XV.so ?_ | refine XV.via (hL ..) ?_ | assumption | exact KX.rf | refine KX.i rfl ?_ | refine KX.j rfl ?_ | refine KX.a rfl ?_ | refine KX.b rfl ?_ | refine KX.c rfl ?_)
set_option maxRecDepth 20000 in
theorem kx_b_M_readFloating_50_1 (L : Nat → Int64 → G2 → Option (G2)) (l1 : Int64) (g : G2) (hL : ∀ x0 x1 g, XV  g (L x0 x1 g)) : XV  g (b_M_readFloating_50_1 L l1 g) := by
  unfold b_M_readFloating_50_1
  repeat' (with_reducible first | refine XV.ite ?_ ?_ | refine XV.bd ?_ (fun _ _ _ => ?_) | refine XV.bind ?_ (fun _ _ => ?_) | exact XV.no | refine XV.so ?_ | refine XO.via (kx_f_M_fail_50 ..) ?_ | refine XV.via (kx_f_M_fail_50 ..) ?_ | refine XV.via (hL ..) ?_ | assumption | exact KX.rf | refine KX.i rfl ?_ | refine KX.j rfl ?_ | refine KX.a rfl ?_ | refine KX.b rfl ?_ | refine KX.c rfl ?_)
set_option maxRecDepth 20000 in
theorem kx_b_M_readFloating_50_2 (L : Nat → Int64 → G2 → Option (G2)) (l1 : Int64) (g : G2) (hL : ∀ x0 x1 g, XV  g (L x0 x1 g)) : XV  g (b_M_readFloating_50_2 L l1 g) := by
  unfold b_M_readFloating_50_2
  repeat' (with_reducible first | refine XV.ite ?_ ?_ | refine XV.bd ?_ (fun _ _ _ => ?_) | refine XV.bind ?_ (fun _ _ => ?_) | exact XV.no | refine XV.so ?_ | refine XO.via (kx_f_M_declare_50 ..) ?_ | refine XV.via (kx_f_M_declare_50 ..) ?_ | refine XV.via (hL ..) ?_ | assumption | exact KX.rf | refine KX.i rfl ?_ | refine KX.j rfl ?_ | refine KX.a rfl ?_ | refine KX.b rfl ?_ | refine KX.c rfl ?_)
set_option maxRecDepth 20000 in
theorem kx_b_M_readFloating_50_3 (L : Nat → Int64 → G2 → Option (G2)) (l1 : Int64) (g : G2) (hL : ∀ x0 x1 g, XV  g (L x0 x1 g)) : XV  g (b_M_readFloating_50_3 L l1 g) := by
  unfold b_M_readFloating_50_3
  repeat' (with_reducible first | refine XV.ite ?_ ?_ | refine XV.bd ?_ (fun _ _ _ => ?_) | refine XV.bind ?_ (fun _ _ => ?_) | exact XV.no | refine XV.so ?_ | refine XV.via (hL ..) ?_ | assumption | exact KX.rf | refine KX.i rfl ?_ | refine KX.j rfl ?_ | refine KX.a rfl ?_ | refine KX.b rfl ?_ | refine KX.c rfl ?_)
set_option maxRecDepth 20000 in
theorem kx_l_M_readFloating_50 : ∀ (n : Nat) (x0 : Nat) (x1 : Int64) (g : G2), XV  g (l_M_readFloating_50 n x0 x1 g) := by
  intro n
  induction n with
  | zero => intros; exact XV.no
  | succ n ih =>
    intro x0 x1 g
    unfold l_M_readFloating_50
    try dsimp only
    first | (split <;> (first  | exact kx_b_M_readFloating_50_0 _ _ _ ih | exact kx_b_M_readFloating_50_1 _ _ _ ih | exact kx_b_M_readFloating_50_2 _ _ _ ih | exact kx_b_M_readFloating_50_3 _ _ _ ih)) | (first  | exact kx_b_M_readFloating_50_0 _ _ _ ih | exact kx_b_M_readFloating_50_1 _ _ _ ih | exact kx_b_M_readFloating_50_2 _ _ _ ih | exact kx_b_M_readFloating_50_3 _ _ _ ih)
set_option maxRecDepth 20000 in
theorem kx_f_M_readFloating_50 (a1 : Int64) (g : G2) : XV  g (f_M_readFloating_50 a1 g) := by
  unfold f_M_readFloating_50
  repeat' (with_reducible first | refine XV.ite ?_ ?_ | refine XV.bd ?_ (fun _ _ _ => ?_) | refine XV.bind ?_ (fun _ _ => ?_) | exact XV.no | refine XV.so ?_ | refine XO.via (kx_f_M_fail_50 ..) ?_ | refine XV.via (kx_f_M_fail_50 ..) ?_ | refine XO.via (kx_f_M_findWord_50 ..) ?_ | refine XV.via (kx_f_M_findWord_50 ..) ?_ | refine XO.via (kx_f_M_isConstant_50 ..) ?_ | refine XV.via (kx_f_M_isConstant_50 ..) ?_ | refine XO.via (kx_f_M_isLive_50 ..) ?_ | refine XV.via (kx_f_M_isLive_50 ..) ?_ | refine XO.via (kx_f_M_needName_50 ..) ?_ | refine XV.via (kx_f_M_needName_50 ..) ?_ | refine XO.via (kx_f_M_need_50 ..) ?_ | refine XV.via (kx_f_M_need_50 ..) ?_ | refine XO.via (kx_f_M_readType_50 ..) ?_ | refine XV.via (kx_f_M_readType_50 ..) ?_ | refine XO.via (kx_f_M_typeOf_50 ..) ?_ | refine XV.via (kx_f_M_typeOf_50 ..) ?_ | refine XO.via (kx_l_M_readFloating_50 ..) ?_ | refine XV.via (kx_l_M_readFloating_50 ..) ?_ | assumption | exact KX.rf | refine KX.i rfl ?_ | refine KX.j rfl ?_ | refine KX.a rfl ?_ | refine KX.b rfl ?_ | refine KX.c rfl ?_)
set_option maxRecDepth 20000 in
theorem kx_b_M_readExpression_50_0 (L : Nat → Int → Int → G2 → Option (Int × G2)) (i1 : Int) (i3 : Int) (g : G2) (hL : ∀ x0 x1 x2 g, XO  g (L x0 x1 x2 g)) : XO  g (b_M_readExpression_50_0 L i1 i3 g) := by
  unfold b_M_readExpression_50_0
  repeat' (with_reducible first | refine XO.ite ?_ ?_ | refine XO.bd ?_ (fun _ _ _ => ?_) | refine XO.bind ?_ (fun _ _ => ?_) | exact XO.no | refine XO.so ?_ | refine XO.via (kx_f_M_fail_50 ..) ?_ | refine XV.via (kx_f_M_fail_50 ..) ?_ | refine XO.via (kx_f_M_findWord_50 ..) ?_ | refine XV.via (kx_f_M_findWord_50 ..) ?_ | refine XO.via (kx_f_M_isConstant_50 ..) ?_ | refine XV.via (kx_f_M_isConstant_50 ..) ?_ | refine XO.via (kx_f_M_isLive_50 ..) ?_ | refine XV.via (kx_f_M_isLive_50 ..) ?_ | refine XO.via (kx_f_M_need_50 ..) ?_ | refine XV.via (kx_f_M_need_50 ..) ?_ | refine XO.via (kx_f_M_typeOf_50 ..) ?_ | refine XV.via (kx_f_M_typeOf_50 ..) ?_ | refine XO.via (hL ..) ?_ | assumption | exact KX.rf | refine KX.i rfl ?_ | refine KX.j rfl ?_ | refine KX.a rfl ?_ | refine KX.b rfl ?_ | refine KX.c rfl ?_)
set_option maxRecDepth 20000 in
theorem kx_b_M_readExpression_50_1 (L : Nat → Int → Int → G2 → Option (Int × G2)) (i1 : Int) (i3 : Int) (g : G2) (hL : ∀ x0 x1 x2 g, XO  g (L x0 x1 x2 g)) : XO  g (b_M_readExpression_50_1 L i1 i3 g) := by
  unfold b_M_readExpression_50_1
  repeat' (with_reducible first | refine XO.ite ?_ ?_ | refine XO.bd ?_ (fun _ _ _ => ?_) | refine XO.bind ?_ (fun _ _ => ?_) | exact XO.no | refine XO.so ?_ | refine XO.via (kx_f_M_fail_50 ..) ?_ | refine XV.via (kx_f_M_fail_50 ..) ?_ | refine XO.via (hL ..) ?_ | assumption | exact KX.rf | refine KX.i rfl ?_ | refine KX.j rfl ?_ | refine KX.a rfl ?_ | refine KX.b rfl ?_ | refine KX.c rfl ?_)
set_option maxRecDepth 20000 in
theorem kx_b_M_readExpression_50_2 (L : Nat → Int → Int → G2 → Option (Int × G2)) (i1 : Int) (i3 : Int) (g : G2) (hL : ∀ x0 x1 x2 g, XO  g (L x0 x1 x2 g)) : XO  g (b_M_readExpression_50_2 L i1 i3 g) := by
  unfold b_M_readExpression_50_2
  repeat' (with_reducible first | refine XO.ite ?_ ?_ | refine XO.bd ?_ (fun _ _ _ => ?_) | refine XO.bind ?_ (fun _ _ => ?_) | exact XO.no | refine XO.so ?_ | refine XO.via (kx_f_M_fail_50 ..) ?_ | refine XV.via (kx_f_M_fail_50 ..) ?_ | refine XO.via (hL ..) ?_ | assumption | exact KX.rf | refine KX.i rfl ?_ | refine KX.j rfl ?_ | refine KX.a rfl ?_ | refine KX.b rfl ?_ | refine KX.c rfl ?_)
set_option maxRecDepth 20000 in
theorem kx_b_M_readExpression_50_3 (L : Nat → Int → Int → G2 → Option (Int × G2)) (i1 : Int) (i3 : Int) (g : G2) (hL : ∀ x0 x1 x2 g, XO  g (L x0 x1 x2 g)) : XO  g (b_M_readExpression_50_3 L i1 i3 g) := by
  unfold b_M_readExpression_50_3
  repeat' (with_reducible first | refine XO.ite ?_ ?_ | refine XO.bd ?_ (fun _ _ _ => ?_) | refine XO.bind ?_ (fun _ _ => ?_) | exact XO.no | refine XO.so ?_ | refine XO.via (hL ..) ?_ | assumption | exact KX.rf | refine KX.i rfl ?_ | refine KX.j rfl ?_ | refine KX.a rfl ?_ | refine KX.b rfl ?_ | refine KX.c rfl ?_)
set_option maxRecDepth 20000 in
theorem kx_l_M_readExpression_50 : ∀ (n : Nat) (x0 : Nat) (x1 : Int) (x2 : Int) (g : G2), XO  g (l_M_readExpression_50 n x0 x1 x2 g) := by
  intro n
  induction n with
  | zero => intros; exact XO.no
  | succ n ih =>
    intro x0 x1 x2 g
    unfold l_M_readExpression_50
    try dsimp only
    first | (split <;> (first  | exact kx_b_M_readExpression_50_0 _ _ _ _ ih | exact kx_b_M_readExpression_50_1 _ _ _ _ ih | exact kx_b_M_readExpression_50_2 _ _ _ _ ih | exact kx_b_M_readExpression_50_3 _ _ _ _ ih)) | (first  | exact kx_b_M_readExpression_50_0 _ _ _ _ ih | exact kx_b_M_readExpression_50_1 _ _ _ _ ih | exact kx_b_M_readExpression_50_2 _ _ _ _ ih | exact kx_b_M_readExpression_50_3 _ _ _ _ ih)
set_option maxRecDepth 20000 in
theorem kx_f_M_readExpression_50 (a1 : Int) (g : G2) : XO  g (f_M_readExpression_50 a1 g) := by
  unfold f_M_readExpression_50
  repeat' (with_reducible first | refine XO.ite ?_ ?_ | refine XO.bd ?_ (fun _ _ _ => ?_) | refine XO.bind ?_ (fun _ _ => ?_) | exact XO.no | refine XO.so ?_ | refine XO.via (kx_f_M_readType_50 ..) ?_ | refine XV.via (kx_f_M_readType_50 ..) ?_ | refine XO.via (kx_l_M_readExpression_50 ..) ?_ | refine XV.via (kx_l_M_readExpression_50 ..) ?_ | assumption | exact KX.rf | refine KX.i rfl ?_ | refine KX.j rfl ?_ | refine KX.a rfl ?_ | refine KX.b rfl ?_ | refine KX.c rfl ?_)
set_option maxRecDepth 20000 in
theorem kx_b_M_settle_50_0 (L : Nat → Int → Int → G2 → Option (G2)) (i1 : Int) (i2 : Int) (g : G2) (hL : ∀ x0 x1 x2 g, XV  g (L x0 x1 x2 g)) : XV  g (b_M_settle_50_0 L i1 i2 g) := by
  unfold b_M_settle_50_0
  repeat' (with_reducible first | refine XV.ite ?_ ?_ | refine XV.bd ?_ (fun _ _ _ => ?_) | refine XV.bind ?_ (fun _ _ => ?_) | exact XV.no | refine XV.so ?_ | refine XV.via (hL ..) ?_ | assumption | exact KX.rf | refine KX.i rfl ?_ | refine KX.j rfl ?_ | refine KX.a rfl ?_ | refine KX.b rfl ?_ | refine KX.c rfl ?_)
set_option maxRecDepth 20000 in
theorem kx_l_M_settle_50 : ∀ (n : Nat) (x0 : Nat) (x1 : Int) (x2 : Int) (g : G2), XV  g (l_M_settle_50 n x0 x1 x2 g) := by
  intro n
  induction n with
  | zero => intros; exact XV.no
  | succ n ih =>
    intro x0 x1 x2 g
    unfold l_M_settle_50
    try dsimp only
    first | (split <;> (first  | exact kx_b_M_settle_50_0 _ _ _ _ ih)) | (first  | exact kx_b_M_settle_50_0 _ _ _ _ ih)
set_option maxRecDepth 20000 in
theorem kx_f_M_settle_50 (a1 : Int) (g : G2) : XV  g (f_M_settle_50 a1 g) := by
  unfold f_M_settle_50
  repeat' (with_reducible first | refine XV.ite ?_ ?_ | refine XV.bd ?_ (fun _ _ _ => ?_) | refine XV.bind ?_ (fun _ _ => ?_) | exact XV.no | refine XV.so ?_ | refine XO.via (kx_l_M_settle_50 ..) ?_ | refine XV.via (kx_l_M_settle_50 ..) ?_ | assumption | exact KX.rf | refine KX.i rfl ?_ | refine KX.j rfl ?_ | refine KX.a rfl ?_ | refine KX.b rfl ?_ | refine KX.c rfl ?_)
set_option maxRecDepth 20000 in
theorem kx_b_M_mark_50_0 (L : Nat → Int → Int → Int → Int → G2 → Option (G2)) (i1 : Int) (i2 : Int) (i3 : Int) (i4 : Int) (g : G2) (hL : ∀ x0 x1 x2 x3 x4 g, XV  g (L x0 x1 x2 x3 x4 g)) : XV  g (b_M_mark_50_0 L i1 i2 i3 i4 g) := by
  unfold b_M_mark_50_0
  repeat' (with_reducible first | refine XV.ite ?_ ?_ | refine XV.bd ?_ (fun _ _ _ => ?_) | refine XV.bind ?_ (fun _ _ => ?_) | exact XV.no | refine XV.so ?_ | refine XV.via (hL ..) ?_ | assumption | exact KX.rf | refine KX.i rfl ?_ | refine KX.j rfl ?_ | refine KX.a rfl ?_ | refine KX.b rfl ?_ | refine KX.c rfl ?_)
set_option maxRecDepth 20000 in
theorem kx_l_M_mark_50 : ∀ (n : Nat) (x0 : Nat) (x1 : Int) (x2 : Int) (x3 : Int) (x4 : Int) (g : G2), XV  g (l_M_mark_50 n x0 x1 x2 x3 x4 g) := by
  intro n
  induction n with
  | zero => intros; exact XV.no
  | succ n ih =>
    intro x0 x1 x2 x3 x4 g
    unfold l_M_mark_50
    try dsimp only
    first | (split <;> (first  | exact kx_b_M_mark_50_0 _ _ _ _ _ _ ih)) | (first  | exact kx_b_M_mark_50_0 _ _ _ _ _ _ ih)
set_option maxRecDepth 20000 in
theorem kx_f_M_mark_50 (a1 : Int) (a2 : Int) (a3 : Int) (g : G2) : XV  g (f_M_mark_50 a1 a2 a3 g) := by
  unfold f_M_mark_50
  repeat' (with_reducible first | refine XV.ite ?_ ?_ | refine XV.bd ?_ (fun _ _ _ => ?_) | refine XV.bind ?_ (fun _ _ => ?_) | exact XV.no | refine XV.so ?_ | refine XO.via (kx_l_M_mark_50 ..) ?_ | refine XV.via (kx_l_M_mark_50 ..) ?_ | assumption | exact KX.rf | refine KX.i rfl ?_ | refine KX.j rfl ?_ | refine KX.a rfl ?_ | refine KX.b rfl ?_ | refine KX.c rfl ?_)
set_option maxRecDepth 20000 in
theorem kx_b_M_isNeeded_50_0 (L : Nat → Int → Int → Int → Int → G2 → Option (Int × G2)) (i1 : Int) (i2 : Int) (i3 : Int) (i4 : Int) (g : G2) (hL : ∀ x0 x1 x2 x3 x4 g, XO  g (L x0 x1 x2 x3 x4 g)) : XO  g (b_M_isNeeded_50_0 L i1 i2 i3 i4 g) := by
  unfold b_M_isNeeded_50_0
  repeat' (with_reducible first | refine XO.ite ?_ ?_ | refine XO.bd ?_ (fun _ _ _ => ?_) | refine XO.bind ?_ (fun _ _ => ?_) | exact XO.no | refine XO.so ?_ | refine XO.via (hL ..) ?_ | assumption | exact KX.rf | refine KX.i rfl ?_ | refine KX.j rfl ?_ | refine KX.a rfl ?_ | refine KX.b rfl ?_ | refine KX.c rfl ?_)
set_option maxRecDepth 20000 in
theorem kx_l_M_isNeeded_50 : ∀ (n : Nat) (x0 : Nat) (x1 : Int) (x2 : Int) (x3 : Int) (x4 : Int) (g : G2), XO  g (l_M_isNeeded_50 n x0 x1 x2 x3 x4 g) := by
  intro n
  induction n with
  | zero => intros; exact XO.no
  | succ n ih =>
    intro x0 x1 x2 x3 x4 g
    unfold l_M_isNeeded_50
    try dsimp only
    first | (split <;> (first  | exact kx_b_M_isNeeded_50_0 _ _ _ _ _ _ ih)) | (first  | exact kx_b_M_isNeeded_50_0 _ _ _ _ _ _ ih)
set_option maxRecDepth 20000 in
theorem kx_f_M_isNeeded_50 (a1 : Int) (a2 : Int) (a3 : Int) (g : G2) : XO  g (f_M_isNeeded_50 a1 a2 a3 g) := by
  unfold f_M_isNeeded_50
  repeat' (with_reducible first | refine XO.ite ?_ ?_ | refine XO.bd ?_ (fun _ _ _ => ?_) | refine XO.bind ?_ (fun _ _ => ?_) | exact XO.no | refine XO.so ?_ | refine XO.via (kx_l_M_isNeeded_50 ..) ?_ | refine XV.via (kx_l_M_isNeeded_50 ..) ?_ | assumption | exact KX.rf | refine KX.i rfl ?_ | refine KX.j rfl ?_ | refine KX.a rfl ?_ | refine KX.b rfl ?_ | refine KX.c rfl ?_)
set_option maxRecDepth 20000 in
theorem kx_b_M_findNeeds_50_0 (L : Nat → Int → Int → G2 → Option (G2)) (i1 : Int) (i2 : Int) (g : G2) (hL : ∀ x0 x1 x2 g, XV  g (L x0 x1 x2 g)) : XV  g (b_M_findNeeds_50_0 L i1 i2 g) := by
  unfold b_M_findNeeds_50_0
  repeat' (with_reducible first | refine XV.ite ?_ ?_ | refine XV.bd ?_ (fun _ _ _ => ?_) | refine XV.bind ?_ (fun _ _ => ?_) | exact XV.no | refine XV.so ?_ | refine XO.via (kx_f_M_mark_50 ..) ?_ | refine XV.via (kx_f_M_mark_50 ..) ?_ | refine XV.via (hL ..) ?_ | assumption | exact KX.rf | refine KX.i rfl ?_ | refine KX.j rfl ?_ | refine KX.a rfl ?_ | refine KX.b rfl ?_ | refine KX.c rfl ?_)
set_option maxRecDepth 20000 in
theorem kx_b_M_findNeeds_50_1 (L : Nat → Int → Int → G2 → Option (G2)) (i1 : Int) (i2 : Int) (g : G2) (hL : ∀ x0 x1 x2 g, XV  g (L x0 x1 x2 g)) : XV  g (b_M_findNeeds_50_1 L i1 i2 g) := by
  unfold b_M_findNeeds_50_1
  repeat' (with_reducible first | refine XV.ite ?_ ?_ | refine XV.bd ?_ (fun _ _ _ => ?_) | refine XV.bind ?_ (fun _ _ => ?_) | exact XV.no | refine XV.so ?_ | refine XO.via (kx_f_M_mark_50 ..) ?_ | refine XV.via (kx_f_M_mark_50 ..) ?_ | refine XV.via (hL ..) ?_ | assumption | exact KX.rf | refine KX.i rfl ?_ | refine KX.j rfl ?_ | refine KX.a rfl ?_ | refine KX.b rfl ?_ | refine KX.c rfl ?_)
set_option maxRecDepth 20000 in
theorem kx_b_M_findNeeds_50_2 (L : Nat → Int → Int → G2 → Option (G2)) (i1 : Int) (i2 : Int) (g : G2) (hL : ∀ x0 x1 x2 g, XV  g (L x0 x1 x2 g)) : XV  g (b_M_findNeeds_50_2 L i1 i2 g) := by
  unfold b_M_findNeeds_50_2
  repeat' (with_reducible first | refine XV.ite ?_ ?_ | refine XV.bd ?_ (fun _ _ _ => ?_) | refine XV.bind ?_ (fun _ _ => ?_) | exact XV.no | refine XV.so ?_ | refine XV.via (hL ..) ?_ | assumption | exact KX.rf | refine KX.i rfl ?_ | refine KX.j rfl ?_ | refine KX.a rfl ?_ | refine KX.b rfl ?_ | refine KX.c rfl ?_)
set_option maxRecDepth 20000 in
theorem kx_b_M_findNeeds_50_3 (L : Nat → Int → Int → G2 → Option (G2)) (i1 : Int) (i2 : Int) (g : G2) (hL : ∀ x0 x1 x2 g, XV  g (L x0 x1 x2 g)) : XV  g (b_M_findNeeds_50_3 L i1 i2 g) := by
  unfold b_M_findNeeds_50_3
  repeat' (with_reducible first | refine XV.ite ?_ ?_ | refine XV.bd ?_ (fun _ _ _ => ?_) | refine XV.bind ?_ (fun _ _ => ?_) | exact XV.no | refine XV.so ?_ | refine XV.via (hL ..) ?_ | assumption | exact KX.rf | refine KX.i rfl ?_ | refine KX.j rfl ?_ | refine KX.a rfl ?_ | refine KX.b rfl ?_ | refine KX.c rfl ?_)
set_option maxRecDepth 20000 in
theorem kx_b_M_findNeeds_50_4 (L : Nat → Int → Int → G2 → Option (G2)) (i1 : Int) (i2 : Int) (g : G2) (hL : ∀ x0 x1 x2 g, XV  g (L x0 x1 x2 g)) : XV  g (b_M_findNeeds_50_4 L i1 i2 g) := by
  unfold b_M_findNeeds_50_4
  repeat' (with_reducible first | refine XV.ite ?_ ?_ | refine XV.bd ?_ (fun _ _ _ => ?_) | refine XV.bind ?_ (fun _ _ => ?_) | exact XV.no | refine XV.so ?_ | refine XV.via (hL ..) ?_ | assumption | exact KX.rf | refine KX.i rfl ?_ | refine KX.j rfl ?_ | refine KX.a rfl ?_ | refine KX.b rfl ?_ | refine KX.c rfl ?_)
set_option maxRecDepth 20000 in
theorem kx_b_M_findNeeds_50_5 (L : Nat → Int → Int → G2 → Option (G2)) (i1 : Int) (i2 : Int) (g : G2) (hL : ∀ x0 x1 x2 g, XV  g (L x0 x1 x2 g)) : XV  g (b_M_findNeeds_50_5 L i1 i2 g) := by
  unfold b_M_findNeeds_50_5
  repeat' (with_reducible first | refine XV.ite ?_ ?_ | refine XV.bd ?_ (fun _ _ _ => ?_) | refine XV.bind ?_ (fun _ _ => ?_) | exact XV.no | refine XV.so ?_ | refine XV.via (hL ..) ?_ | assumption | exact KX.rf | refine KX.i rfl ?_ | refine KX.j rfl ?_ | refine KX.a rfl ?_ | refine KX.b rfl ?_ | refine KX.c rfl ?_)
set_option maxRecDepth 20000 in
theorem kx_b_M_findNeeds_50_6 (L : Nat → Int → Int → G2 → Option (G2)) (i1 : Int) (i2 : Int) (g : G2) (hL : ∀ x0 x1 x2 g, XV  g (L x0 x1 x2 g)) : XV  g (b_M_findNeeds_50_6 L i1 i2 g) := by
  unfold b_M_findNeeds_50_6
  repeat' (with_reducible first | refine XV.ite ?_ ?_ | refine XV.bd ?_ (fun _ _ _ => ?_) | refine XV.bind ?_ (fun _ _ => ?_) | exact XV.no | refine XV.so ?_ | refine XO.via (kx_f_M_isNeeded_50 ..) ?_ | refine XV.via (kx_f_M_isNeeded_50 ..) ?_ | refine XV.via (hL ..) ?_ | assumption | exact KX.rf | refine KX.i rfl ?_ | refine KX.j rfl ?_ | refine KX.a rfl ?_ | refine KX.b rfl ?_ | refine KX.c rfl ?_)
set_option maxRecDepth 20000 in
theorem kx_b_M_findNeeds_50_7 (L : Nat → Int → Int → G2 → Option (G2)) (i1 : Int) (i2 : Int) (g : G2) (hL : ∀ x0 x1 x2 g, XV  g (L x0 x1 x2 g)) : XV  g (b_M_findNeeds_50_7 L i1 i2 g) := by
  unfold b_M_findNeeds_50_7
  repeat' (with_reducible first | refine XV.ite ?_ ?_ | refine XV.bd ?_ (fun _ _ _ => ?_) | refine XV.bind ?_ (fun _ _ => ?_) | exact XV.no | refine XV.so ?_ | refine XV.via (hL ..) ?_ | assumption | exact KX.rf | refine KX.i rfl ?_ | refine KX.j rfl ?_ | refine KX.a rfl ?_ | refine KX.b rfl ?_ | refine KX.c rfl ?_)
set_option maxRecDepth 20000 in
theorem kx_b_M_findNeeds_50_8 (L : Nat → Int → Int → G2 → Option (G2)) (i1 : Int) (i2 : Int) (g : G2) (hL : ∀ x0 x1 x2 g, XV  g (L x0 x1 x2 g)) : XV  g (b_M_findNeeds_50_8 L i1 i2 g) := by
  unfold b_M_findNeeds_50_8
  repeat' (with_reducible first | refine XV.ite ?_ ?_ | refine XV.bd ?_ (fun _ _ _ => ?_) | refine XV.bind ?_ (fun _ _ => ?_) | exact XV.no | refine XV.so ?_ | refine XV.via (hL ..) ?_ | assumption | exact KX.rf | refine KX.i rfl ?_ | refine KX.j rfl ?_ | refine KX.a rfl ?_ | refine KX.b rfl ?_ | refine KX.c rfl ?_)
set_option maxRecDepth 20000 in
theorem kx_l_M_findNeeds_50 : ∀ (n : Nat) (x0 : Nat) (x1 : Int) (x2 : Int) (g : G2), XV  g (l_M_findNeeds_50 n x0 x1 x2 g) := by
  intro n
  induction n with
  | zero => intros; exact XV.no
  | succ n ih =>
    intro x0 x1 x2 g
    unfold l_M_findNeeds_50
    try dsimp only
    first | (split <;> (first  | exact kx_b_M_findNeeds_50_0 _ _ _ _ ih | exact kx_b_M_findNeeds_50_1 _ _ _ _ ih | exact kx_b_M_findNeeds_50_2 _ _ _ _ ih | exact kx_b_M_findNeeds_50_3 _ _ _ _ ih | exact kx_b_M_findNeeds_50_4 _ _ _ _ ih | exact kx_b_M_findNeeds_50_5 _ _ _ _ ih | exact kx_b_M_findNeeds_50_6 _ _ _ _ ih | exact kx_b_M_findNeeds_50_7 _ _ _ _ ih | exact kx_b_M_findNeeds_50_8 _ _ _ _ ih)) | (first  | exact kx_b_M_findNeeds_50_0 _ _ _ _ ih | exact kx_b_M_findNeeds_50_1 _ _ _ _ ih | exact kx_b_M_findNeeds_50_2 _ _ _ _ ih | exact kx_b_M_findNeeds_50_3 _ _ _ _ ih | exact kx_b_M_findNeeds_50_4 _ _ _ _ ih | exact kx_b_M_findNeeds_50_5 _ _ _ _ ih | exact kx_b_M_findNeeds_50_6 _ _ _ _ ih | exact kx_b_M_findNeeds_50_7 _ _ _ _ ih | exact kx_b_M_findNeeds_50_8 _ _ _ _ ih)
set_option maxRecDepth 20000 in
theorem kx_f_M_findNeeds_50 (g : G2) : XV  g (f_M_findNeeds_50 g) := by
  unfold f_M_findNeeds_50
  repeat' (with_reducible first | refine XV.ite ?_ ?_ | refine XV.bd ?_ (fun _ _ _ => ?_) | refine XV.bind ?_ (fun _ _ => ?_) | exact XV.no | refine XV.so ?_ | refine XO.via (kx_l_M_findNeeds_50 ..) ?_ | refine XV.via (kx_l_M_findNeeds_50 ..) ?_ | assumption | exact KX.rf | refine KX.i rfl ?_ | refine KX.j rfl ?_ | refine KX.a rfl ?_ | refine KX.b rfl ?_ | refine KX.c rfl ?_)
set_option maxRecDepth 20000 in
theorem kx_b_M_begin_50_0 (L : Nat → Int → Int → G2 → Option (G2)) (i1 : Int) (i2 : Int) (g : G2) (hL : ∀ x0 x1 x2 g, XV  g (L x0 x1 x2 g)) : XV  g (b_M_begin_50_0 L i1 i2 g) := by
  unfold b_M_begin_50_0
  repeat' (with_reducible first | refine XV.ite ?_ ?_ | refine XV.bd ?_ (fun _ _ _ => ?_) | refine XV.bind ?_ (fun _ _ => ?_) | exact XV.no | refine XV.so ?_ | refine XV.via (hL ..) ?_ | assumption | exact KX.rf | refine KX.i rfl ?_ | refine KX.j rfl ?_ | refine KX.a rfl ?_ | refine KX.b rfl ?_ | refine KX.c rfl ?_)
set_option maxRecDepth 20000 in
theorem kx_l_M_begin_50 : ∀ (n : Nat) (x0 : Nat) (x1 : Int) (x2 : Int) (g : G2), XV  g (l_M_begin_50 n x0 x1 x2 g) := by
  intro n
  induction n with
  | zero => intros; exact XV.no
  | succ n ih =>
    intro x0 x1 x2 g
    unfold l_M_begin_50
    try dsimp only
    first | (split <;> (first  | exact kx_b_M_begin_50_0 _ _ _ _ ih)) | (first  | exact kx_b_M_begin_50_0 _ _ _ _ ih)
set_option maxRecDepth 20000 in
theorem kx_f_M_begin_50 (a1 : Int) (g : G2) : XV  g (f_M_begin_50 a1 g) := by
  unfold f_M_begin_50
  repeat' (with_reducible first | refine XV.ite ?_ ?_ | refine XV.bd ?_ (fun _ _ _ => ?_) | refine XV.bind ?_ (fun _ _ => ?_) | exact XV.no | refine XV.so ?_ | refine XO.via (kx_l_M_begin_50 ..) ?_ | refine XV.via (kx_l_M_begin_50 ..) ?_ | assumption | exact KX.rf | refine KX.i rfl ?_ | refine KX.j rfl ?_ | refine KX.a rfl ?_ | refine KX.b rfl ?_ | refine KX.c rfl ?_)
set_option maxRecDepth 20000 in
theorem kx_f_M_isWord_50 (a1 : Int) (g : G2) : XO  g (f_M_isWord_50 a1 g) := by
  unfold f_M_isWord_50
  repeat' (with_reducible first | refine XO.ite ?_ ?_ | refine XO.bd ?_ (fun _ _ _ => ?_) | refine XO.bind ?_ (fun _ _ => ?_) | exact XO.no | refine XO.so ?_ | refine XO.via (kx_f_M_letter_50 ..) ?_ | refine XV.via (kx_f_M_letter_50 ..) ?_ | assumption | exact KX.rf | refine KX.i rfl ?_ | refine KX.j rfl ?_ | refine KX.a rfl ?_ | refine KX.b rfl ?_ | refine KX.c rfl ?_)
set_option maxRecDepth 20000 in
theorem kx_f_M_lookUp_50 (g : G2) : XO  g (f_M_lookUp_50 g) := by
  unfold f_M_lookUp_50
  repeat' (with_reducible first | refine XO.ite ?_ ?_ | refine XO.bd ?_ (fun _ _ _ => ?_) | refine XO.bind ?_ (fun _ _ => ?_) | exact XO.no | refine XO.so ?_ | refine XO.via (kx_f_M_fail_50 ..) ?_ | refine XV.via (kx_f_M_fail_50 ..) ?_ | refine XO.via (kx_f_M_findWord_50 ..) ?_ | refine XV.via (kx_f_M_findWord_50 ..) ?_ | assumption | exact KX.rf | refine KX.i rfl ?_ | refine KX.j rfl ?_ | refine KX.a rfl ?_ | refine KX.b rfl ?_ | refine KX.c rfl ?_)
set_option maxRecDepth 20000 in
theorem kx_f_M_hasRoom_50 (g : G2) : XO  g (f_M_hasRoom_50 g) := by
  unfold f_M_hasRoom_50
  repeat' (with_reducible first | refine XO.ite ?_ ?_ | refine XO.bd ?_ (fun _ _ _ => ?_) | refine XO.bind ?_ (fun _ _ => ?_) | exact XO.no | refine XO.so ?_ | refine XO.via (kx_f_M_fail_50 ..) ?_ | refine XV.via (kx_f_M_fail_50 ..) ?_ | assumption | exact KX.rf | refine KX.i rfl ?_ | refine KX.j rfl ?_ | refine KX.a rfl ?_ | refine KX.b rfl ?_ | refine KX.c rfl ?_)
set_option maxRecDepth 20000 in
theorem kx_b_M_pushHypothesis_50_0 (L : Nat → Int → Int → G2 → Option (G2)) (i1 : Int) (i2 : Int) (g : G2) (hL : ∀ x0 x1 x2 g, XV  g (L x0 x1 x2 g)) : XV  g (b_M_pushHypothesis_50_0 L i1 i2 g) := by
  unfold b_M_pushHypothesis_50_0
  repeat' (with_reducible first | refine XV.ite ?_ ?_ | refine XV.bd ?_ (fun _ _ _ => ?_) | refine XV.bind ?_ (fun _ _ => ?_) | exact XV.no | refine XV.so ?_ | refine XV.via (hL ..) ?_ | assumption | exact KX.rf | refine KX.i rfl ?_ | refine KX.j rfl ?_ | refine KX.a rfl ?_ | refine KX.b rfl ?_ | refine KX.c rfl ?_)
set_option maxRecDepth 20000 in
theorem kx_l_M_pushHypothesis_50 : ∀ (n : Nat) (x0 : Nat) (x1 : Int) (x2 : Int) (g : G2), XV  g (l_M_pushHypothesis_50 n x0 x1 x2 g) := by
  intro n
  induction n with
  | zero => intros; exact XV.no
  | succ n ih =>
    intro x0 x1 x2 g
    unfold l_M_pushHypothesis_50
    try dsimp only
    first | (split <;> (first  | exact kx_b_M_pushHypothesis_50_0 _ _ _ _ ih)) | (first  | exact kx_b_M_pushHypothesis_50_0 _ _ _ _ ih)
set_option maxRecDepth 20000 in
theorem kx_f_M_pushHypothesis_50 (a1 : Int) (g : G2) : XV  g (f_M_pushHypothesis_50 a1 g) := by
  unfold f_M_pushHypothesis_50
  repeat' (with_reducible first | refine XV.ite ?_ ?_ | refine XV.bd ?_ (fun _ _ _ => ?_) | refine XV.bind ?_ (fun _ _ => ?_) | exact XV.no | refine XV.so ?_ | refine XO.via (kx_f_M_hasRoom_50 ..) ?_ | refine XV.via (kx_f_M_hasRoom_50 ..) ?_ | refine XO.via (kx_l_M_pushHypothesis_50 ..) ?_ | refine XV.via (kx_l_M_pushHypothesis_50 ..) ?_ | assumption | exact KX.rf | refine KX.i rfl ?_ | refine KX.j rfl ?_ | refine KX.a rfl ?_ | refine KX.b rfl ?_ | refine KX.c rfl ?_)
set_option maxRecDepth 20000 in
theorem kx_f_M_tally_50 (a1 : Int) (g : G2) : XV  g (f_M_tally_50 a1 g) := by
  unfold f_M_tally_50
  repeat' (with_reducible first | refine XV.ite ?_ ?_ | refine XV.bd ?_ (fun _ _ _ => ?_) | refine XV.bind ?_ (fun _ _ => ?_) | exact XV.no | refine XV.so ?_ | assumption | exact KX.rf | refine KX.i rfl ?_ | refine KX.j rfl ?_ | refine KX.a rfl ?_ | refine KX.b rfl ?_ | refine KX.c rfl ?_)
set_option maxRecDepth 20000 in
theorem kx_b_M_replace_50_0 (L : Nat → Int → Int → Int → Int → Int → G2 → Option (Int × G2)) (i1 : Int) (i2 : Int) (i3 : Int) (i5 : Int) (i6 : Int) (g : G2) (hL : ∀ x0 x1 x2 x3 x4 x5 g, XO  g (L x0 x1 x2 x3 x4 x5 g)) : XO  g (b_M_replace_50_0 L i1 i2 i3 i5 i6 g) := by
  unfold b_M_replace_50_0
  repeat' (with_reducible first | refine XO.ite ?_ ?_ | refine XO.bd ?_ (fun _ _ _ => ?_) | refine XO.bind ?_ (fun _ _ => ?_) | exact XO.no | refine XO.so ?_ | refine XO.via (hL ..) ?_ | assumption | exact KX.rf | refine KX.i rfl ?_ | refine KX.j rfl ?_ | refine KX.a rfl ?_ | refine KX.b rfl ?_ | refine KX.c rfl ?_)
set_option maxRecDepth 20000 in
theorem kx_b_M_replace_50_1 (L : Nat → Int → Int → Int → Int → Int → G2 → Option (Int × G2)) (i1 : Int) (i2 : Int) (i3 : Int) (i5 : Int) (i6 : Int) (g : G2) (hL : ∀ x0 x1 x2 x3 x4 x5 g, XO  g (L x0 x1 x2 x3 x4 x5 g)) : XO  g (b_M_replace_50_1 L i1 i2 i3 i5 i6 g) := by
  unfold b_M_replace_50_1
  repeat' (with_reducible first | refine XO.ite ?_ ?_ | refine XO.bd ?_ (fun _ _ _ => ?_) | refine XO.bind ?_ (fun _ _ => ?_) | exact XO.no | refine XO.so ?_ | refine XO.via (hL ..) ?_ | assumption | exact KX.rf | refine KX.i rfl ?_ | refine KX.j rfl ?_ | refine KX.a rfl ?_ | refine KX.b rfl ?_ | refine KX.c rfl ?_)
set_option maxRecDepth 20000 in
theorem kx_l_M_replace_50 : ∀ (n : Nat) (x0 : Nat) (x1 : Int) (x2 : Int) (x3 : Int) (x4 : Int) (x5 : Int) (g : G2), XO  g (l_M_replace_50 n x0 x1 x2 x3 x4 x5 g) := by
  intro n
  induction n with
  | zero => intros; exact XO.no
  | succ n ih =>
    intro x0 x1 x2 x3 x4 x5 g
    unfold l_M_replace_50
    try dsimp only
    first | (split <;> (first  | exact kx_b_M_replace_50_0 _ _ _ _ _ _ _ ih | exact kx_b_M_replace_50_1 _ _ _ _ _ _ _ ih)) | (first  | exact kx_b_M_replace_50_0 _ _ _ _ _ _ _ ih | exact kx_b_M_replace_50_1 _ _ _ _ _ _ _ ih)
set_option maxRecDepth 20000 in
theorem kx_f_M_replace_50 (a1 : Int) (g : G2) : XO  g (f_M_replace_50 a1 g) := by
  unfold f_M_replace_50
  repeat' (with_reducible first | refine XO.ite ?_ ?_ | refine XO.bd ?_ (fun _ _ _ => ?_) | refine XO.bind ?_ (fun _ _ => ?_) | exact XO.no | refine XO.so ?_ | refine XO.via (kx_l_M_replace_50 ..) ?_ | refine XV.via (kx_l_M_replace_50 ..) ?_ | assumption | exact KX.rf | refine KX.i rfl ?_ | refine KX.j rfl ?_ | refine KX.a rfl ?_ | refine KX.b rfl ?_ | refine KX.c rfl ?_)
set_option maxRecDepth 20000 in
theorem kx_b_M_isMade_50_0 (L : Nat → Int → Int → Int → Int → G2 → Option (Int × G2)) (i1 : Int) (i2 : Int) (i3 : Int) (i4 : Int) (g : G2) (hL : ∀ x0 x1 x2 x3 x4 g, XO  g (L x0 x1 x2 x3 x4 g)) : XO  g (b_M_isMade_50_0 L i1 i2 i3 i4 g) := by
  unfold b_M_isMade_50_0
  repeat' (with_reducible first | refine XO.ite ?_ ?_ | refine XO.bd ?_ (fun _ _ _ => ?_) | refine XO.bind ?_ (fun _ _ => ?_) | exact XO.no | refine XO.so ?_ | refine XO.via (hL ..) ?_ | assumption | exact KX.rf | refine KX.i rfl ?_ | refine KX.j rfl ?_ | refine KX.a rfl ?_ | refine KX.b rfl ?_ | refine KX.c rfl ?_)
set_option maxRecDepth 20000 in
theorem kx_l_M_isMade_50 : ∀ (n : Nat) (x0 : Nat) (x1 : Int) (x2 : Int) (x3 : Int) (x4 : Int) (g : G2), XO  g (l_M_isMade_50 n x0 x1 x2 x3 x4 g) := by
  intro n
  induction n with
  | zero => intros; exact XO.no
  | succ n ih =>
    intro x0 x1 x2 x3 x4 g
    unfold l_M_isMade_50
    try dsimp only
    first | (split <;> (first  | exact kx_b_M_isMade_50_0 _ _ _ _ _ _ ih)) | (first  | exact kx_b_M_isMade_50_0 _ _ _ _ _ _ ih)
set_option maxRecDepth 20000 in
theorem kx_f_M_isMade_50 (a1 : Int) (a2 : Int) (g : G2) : XO  g (f_M_isMade_50 a1 a2 g) := by
  unfold f_M_isMade_50
  repeat' (with_reducible first | refine XO.ite ?_ ?_ | refine XO.bd ?_ (fun _ _ _ => ?_) | refine XO.bind ?_ (fun _ _ => ?_) | exact XO.no | refine XO.so ?_ | refine XO.via (kx_l_M_isMade_50 ..) ?_ | refine XV.via (kx_l_M_isMade_50 ..) ?_ | assumption | exact KX.rf | refine KX.i rfl ?_ | refine KX.j rfl ?_ | refine KX.a rfl ?_ | refine KX.b rfl ?_ | refine KX.c rfl ?_)
set_option maxRecDepth 20000 in
theorem kx_b_M_areApart_50_0 (L : Nat → Int → Int → Int → G2 → Option (Int × G2)) (i1 : Int) (i2 : Int) (i3 : Int) (g : G2) (hL : ∀ x0 x1 x2 x3 g, XO  g (L x0 x1 x2 x3 g)) : XO  g (b_M_areApart_50_0 L i1 i2 i3 g) := by
  unfold b_M_areApart_50_0
  repeat' (with_reducible first | refine XO.ite ?_ ?_ | refine XO.bd ?_ (fun _ _ _ => ?_) | refine XO.bind ?_ (fun _ _ => ?_) | exact XO.no | refine XO.so ?_ | refine XO.via (hL ..) ?_ | assumption | exact KX.rf | refine KX.i rfl ?_ | refine KX.j rfl ?_ | refine KX.a rfl ?_ | refine KX.b rfl ?_ | refine KX.c rfl ?_)
set_option maxRecDepth 20000 in
theorem kx_l_M_areApart_50 : ∀ (n : Nat) (x0 : Nat) (x1 : Int) (x2 : Int) (x3 : Int) (g : G2), XO  g (l_M_areApart_50 n x0 x1 x2 x3 g) := by
  intro n
  induction n with
  | zero => intros; exact XO.no
  | succ n ih =>
    intro x0 x1 x2 x3 g
    unfold l_M_areApart_50
    try dsimp only
    first | (split <;> (first  | exact kx_b_M_areApart_50_0 _ _ _ _ _ ih)) | (first  | exact kx_b_M_areApart_50_0 _ _ _ _ _ ih)
set_option maxRecDepth 20000 in
theorem kx_f_M_areApart_50 (a1 : Int) (a2 : Int) (g : G2) : XO  g (f_M_areApart_50 a1 a2 g) := by
  unfold f_M_areApart_50
  repeat' (with_reducible first | refine XO.ite ?_ ?_ | refine XO.bd ?_ (fun _ _ _ => ?_) | refine XO.bind ?_ (fun _ _ => ?_) | exact XO.no | refine XO.so ?_ | refine XO.via (kx_l_M_areApart_50 ..) ?_ | refine XV.via (kx_l_M_areApart_50 ..) ?_ | assumption | exact KX.rf | refine KX.i rfl ?_ | refine KX.j rfl ?_ | refine KX.a rfl ?_ | refine KX.b rfl ?_ | refine KX.c rfl ?_)
set_option maxRecDepth 20000 in
theorem kx_b_M_allApart_50_0 (L : Nat → Int → Int → Int → Int → G2 → Option (Int × G2)) (i1 : Int) (i2 : Int) (i3 : Int) (i4 : Int) (g : G2) (hL : ∀ x0 x1 x2 x3 x4 g, XO  g (L x0 x1 x2 x3 x4 g)) : XO  g (b_M_allApart_50_0 L i1 i2 i3 i4 g) := by
  unfold b_M_allApart_50_0
  repeat' (with_reducible first | refine XO.ite ?_ ?_ | refine XO.bd ?_ (fun _ _ _ => ?_) | refine XO.bind ?_ (fun _ _ => ?_) | exact XO.no | refine XO.so ?_ | refine XO.via (hL ..) ?_ | assumption | exact KX.rf | refine KX.i rfl ?_ | refine KX.j rfl ?_ | refine KX.a rfl ?_ | refine KX.b rfl ?_ | refine KX.c rfl ?_)
set_option maxRecDepth 20000 in
theorem kx_b_M_allApart_50_1 (L : Nat → Int → Int → Int → Int → G2 → Option (Int × G2)) (i1 : Int) (i2 : Int) (i3 : Int) (i4 : Int) (g : G2) (hL : ∀ x0 x1 x2 x3 x4 g, XO  g (L x0 x1 x2 x3 x4 g)) : XO  g (b_M_allApart_50_1 L i1 i2 i3 i4 g) := by
  unfold b_M_allApart_50_1
  repeat' (with_reducible first | refine XO.ite ?_ ?_ | refine XO.bd ?_ (fun _ _ _ => ?_) | refine XO.bind ?_ (fun _ _ => ?_) | exact XO.no | refine XO.so ?_ | refine XO.via (kx_f_M_areApart_50 ..) ?_ | refine XV.via (kx_f_M_areApart_50 ..) ?_ | refine XO.via (hL ..) ?_ | assumption | exact KX.rf | refine KX.i rfl ?_ | refine KX.j rfl ?_ | refine KX.a rfl ?_ | refine KX.b rfl ?_ | refine KX.c rfl ?_)
set_option maxRecDepth 20000 in
theorem kx_b_M_allApart_50_2 (L : Nat → Int → Int → Int → Int → G2 → Option (Int × G2)) (i1 : Int) (i2 : Int) (i3 : Int) (i4 : Int) (g : G2) (hL : ∀ x0 x1 x2 x3 x4 g, XO  g (L x0 x1 x2 x3 x4 g)) : XO  g (b_M_allApart_50_2 L i1 i2 i3 i4 g) := by
  unfold b_M_allApart_50_2
  repeat' (with_reducible first | refine XO.ite ?_ ?_ | refine XO.bd ?_ (fun _ _ _ => ?_) | refine XO.bind ?_ (fun _ _ => ?_) | exact XO.no | refine XO.so ?_ | refine XO.via (hL ..) ?_ | assumption | exact KX.rf | refine KX.i rfl ?_ | refine KX.j rfl ?_ | refine KX.a rfl ?_ | refine KX.b rfl ?_ | refine KX.c rfl ?_)
set_option maxRecDepth 20000 in
theorem kx_b_M_allApart_50_3 (L : Nat → Int → Int → Int → Int → G2 → Option (Int × G2)) (i1 : Int) (i2 : Int) (i3 : Int) (i4 : Int) (g : G2) (hL : ∀ x0 x1 x2 x3 x4 g, XO  g (L x0 x1 x2 x3 x4 g)) : XO  g (b_M_allApart_50_3 L i1 i2 i3 i4 g) := by
  unfold b_M_allApart_50_3
  repeat' (with_reducible first | refine XO.ite ?_ ?_ | refine XO.bd ?_ (fun _ _ _ => ?_) | refine XO.bind ?_ (fun _ _ => ?_) | exact XO.no | refine XO.so ?_ | refine XO.via (hL ..) ?_ | assumption | exact KX.rf | refine KX.i rfl ?_ | refine KX.j rfl ?_ | refine KX.a rfl ?_ | refine KX.b rfl ?_ | refine KX.c rfl ?_)
set_option maxRecDepth 20000 in
theorem kx_l_M_allApart_50 : ∀ (n : Nat) (x0 : Nat) (x1 : Int) (x2 : Int) (x3 : Int) (x4 : Int) (g : G2), XO  g (l_M_allApart_50 n x0 x1 x2 x3 x4 g) := by
  intro n
  induction n with
  | zero => intros; exact XO.no
  | succ n ih =>
    intro x0 x1 x2 x3 x4 g
    unfold l_M_allApart_50
    try dsimp only
    first | (split <;> (first  | exact kx_b_M_allApart_50_0 _ _ _ _ _ _ ih | exact kx_b_M_allApart_50_1 _ _ _ _ _ _ ih | exact kx_b_M_allApart_50_2 _ _ _ _ _ _ ih | exact kx_b_M_allApart_50_3 _ _ _ _ _ _ ih)) | (first  | exact kx_b_M_allApart_50_0 _ _ _ _ _ _ ih | exact kx_b_M_allApart_50_1 _ _ _ _ _ _ ih | exact kx_b_M_allApart_50_2 _ _ _ _ _ _ ih | exact kx_b_M_allApart_50_3 _ _ _ _ _ _ ih)
set_option maxRecDepth 20000 in
theorem kx_f_M_allApart_50 (a1 : Int) (a2 : Int) (g : G2) : XO  g (f_M_allApart_50 a1 a2 g) := by
  unfold f_M_allApart_50
  repeat' (with_reducible first | refine XO.ite ?_ ?_ | refine XO.bd ?_ (fun _ _ _ => ?_) | refine XO.bind ?_ (fun _ _ => ?_) | exact XO.no | refine XO.so ?_ | refine XO.via (kx_l_M_allApart_50 ..) ?_ | refine XV.via (kx_l_M_allApart_50 ..) ?_ | assumption | exact KX.rf | refine KX.i rfl ?_ | refine KX.j rfl ?_ | refine KX.a rfl ?_ | refine KX.b rfl ?_ | refine KX.c rfl ?_)
set_option maxRecDepth 20000 in
theorem kx_b_M_apply_50_0 (L : Nat → Int → Int → Int → Int → Int → G2 → Option (Int × G2)) (i1 : Int) (i2 : Int) (i3 : Int) (i4 : Int) (i5 : Int) (g : G2) (hL : ∀ x0 x1 x2 x3 x4 x5 g, XO  g (L x0 x1 x2 x3 x4 x5 g)) : XO  g (b_M_apply_50_0 L i1 i2 i3 i4 i5 g) := by
  unfold b_M_apply_50_0
  repeat' (with_reducible first | refine XO.ite ?_ ?_ | refine XO.bd ?_ (fun _ _ _ => ?_) | refine XO.bind ?_ (fun _ _ => ?_) | exact XO.no | refine XO.so ?_ | refine XO.via (kx_f_M_isMade_50 ..) ?_ | refine XV.via (kx_f_M_isMade_50 ..) ?_ | refine XO.via (kx_f_M_replace_50 ..) ?_ | refine XV.via (kx_f_M_replace_50 ..) ?_ | refine XO.via (hL ..) ?_ | assumption | exact KX.rf | refine KX.i rfl ?_ | refine KX.j rfl ?_ | refine KX.a rfl ?_ | refine KX.b rfl ?_ | refine KX.c rfl ?_)
set_option maxRecDepth 20000 in
theorem kx_b_M_apply_50_1 (L : Nat → Int → Int → Int → Int → Int → G2 → Option (Int × G2)) (i1 : Int) (i2 : Int) (i3 : Int) (i4 : Int) (i5 : Int) (g : G2) (hL : ∀ x0 x1 x2 x3 x4 x5 g, XO  g (L x0 x1 x2 x3 x4 x5 g)) : XO  g (b_M_apply_50_1 L i1 i2 i3 i4 i5 g) := by
  unfold b_M_apply_50_1
  repeat' (with_reducible first | refine XO.ite ?_ ?_ | refine XO.bd ?_ (fun _ _ _ => ?_) | refine XO.bind ?_ (fun _ _ => ?_) | exact XO.no | refine XO.so ?_ | refine XO.via (hL ..) ?_ | assumption | exact KX.rf | refine KX.i rfl ?_ | refine KX.j rfl ?_ | refine KX.a rfl ?_ | refine KX.b rfl ?_ | refine KX.c rfl ?_)
set_option maxRecDepth 20000 in
theorem kx_b_M_apply_50_2 (L : Nat → Int → Int → Int → Int → Int → G2 → Option (Int × G2)) (i1 : Int) (i2 : Int) (i3 : Int) (i4 : Int) (i5 : Int) (g : G2) (hL : ∀ x0 x1 x2 x3 x4 x5 g, XO  g (L x0 x1 x2 x3 x4 x5 g)) : XO  g (b_M_apply_50_2 L i1 i2 i3 i4 i5 g) := by
  unfold b_M_apply_50_2
  repeat' (with_reducible first | refine XO.ite ?_ ?_ | refine XO.bd ?_ (fun _ _ _ => ?_) | refine XO.bind ?_ (fun _ _ => ?_) | exact XO.no | refine XO.so ?_ | refine XO.via (kx_f_M_allApart_50 ..) ?_ | refine XV.via (kx_f_M_allApart_50 ..) ?_ | refine XO.via (kx_f_M_replace_50 ..) ?_ | refine XV.via (kx_f_M_replace_50 ..) ?_ | refine XO.via (hL ..) ?_ | assumption | exact KX.rf | refine KX.i rfl ?_ | refine KX.j rfl ?_ | refine KX.a rfl ?_ | refine KX.b rfl ?_ | refine KX.c rfl ?_)
set_option maxRecDepth 20000 in
theorem kx_b_M_apply_50_3 (L : Nat → Int → Int → Int → Int → Int → G2 → Option (Int × G2)) (i1 : Int) (i2 : Int) (i3 : Int) (i4 : Int) (i5 : Int) (g : G2) (hL : ∀ x0 x1 x2 x3 x4 x5 g, XO  g (L x0 x1 x2 x3 x4 x5 g)) : XO  g (b_M_apply_50_3 L i1 i2 i3 i4 i5 g) := by
  unfold b_M_apply_50_3
  repeat' (with_reducible first | refine XO.ite ?_ ?_ | refine XO.bd ?_ (fun _ _ _ => ?_) | refine XO.bind ?_ (fun _ _ => ?_) | exact XO.no | refine XO.so ?_ | refine XO.via (hL ..) ?_ | assumption | exact KX.rf | refine KX.i rfl ?_ | refine KX.j rfl ?_ | refine KX.a rfl ?_ | refine KX.b rfl ?_ | refine KX.c rfl ?_)
set_option maxRecDepth 20000 in
theorem kx_b_M_apply_50_4 (L : Nat → Int → Int → Int → Int → Int → G2 → Option (Int × G2)) (i1 : Int) (i2 : Int) (i3 : Int) (i4 : Int) (i5 : Int) (g : G2) (hL : ∀ x0 x1 x2 x3 x4 x5 g, XO  g (L x0 x1 x2 x3 x4 x5 g)) : XO  g (b_M_apply_50_4 L i1 i2 i3 i4 i5 g) := by
  unfold b_M_apply_50_4
  repeat' (with_reducible first | refine XO.ite ?_ ?_ | refine XO.bd ?_ (fun _ _ _ => ?_) | refine XO.bind ?_ (fun _ _ => ?_) | exact XO.no | refine XO.so ?_ | refine XO.via (hL ..) ?_ | assumption | exact KX.rf | refine KX.i rfl ?_ | refine KX.j rfl ?_ | refine KX.a rfl ?_ | refine KX.b rfl ?_ | refine KX.c rfl ?_)
set_option maxRecDepth 20000 in
theorem kx_l_M_apply_50 : ∀ (n : Nat) (x0 : Nat) (x1 : Int) (x2 : Int) (x3 : Int) (x4 : Int) (x5 : Int) (g : G2), XO  g (l_M_apply_50 n x0 x1 x2 x3 x4 x5 g) := by
  intro n
  induction n with
  | zero => intros; exact XO.no
  | succ n ih =>
    intro x0 x1 x2 x3 x4 x5 g
    unfold l_M_apply_50
    try dsimp only
    first | (split <;> (first  | exact kx_b_M_apply_50_0 _ _ _ _ _ _ _ ih | exact kx_b_M_apply_50_1 _ _ _ _ _ _ _ ih | exact kx_b_M_apply_50_2 _ _ _ _ _ _ _ ih | exact kx_b_M_apply_50_3 _ _ _ _ _ _ _ ih | exact kx_b_M_apply_50_4 _ _ _ _ _ _ _ ih)) | (first  | exact kx_b_M_apply_50_0 _ _ _ _ _ _ _ ih | exact kx_b_M_apply_50_1 _ _ _ _ _ _ _ ih | exact kx_b_M_apply_50_2 _ _ _ _ _ _ _ ih | exact kx_b_M_apply_50_3 _ _ _ _ _ _ _ ih | exact kx_b_M_apply_50_4 _ _ _ _ _ _ _ ih)
set_option maxRecDepth 20000 in
theorem kx_f_M_apply_50 (a1 : Int) (g : G2) : XO  g (f_M_apply_50 a1 g) := by
  unfold f_M_apply_50
  repeat' (with_reducible first | refine XO.ite ?_ ?_ | refine XO.bd ?_ (fun _ _ _ => ?_) | refine XO.bind ?_ (fun _ _ => ?_) | exact XO.no | refine XO.so ?_ | refine XO.via (kx_l_M_apply_50 ..) ?_ | refine XV.via (kx_l_M_apply_50 ..) ?_ | assumption | exact KX.rf | refine KX.i rfl ?_ | refine KX.j rfl ?_ | refine KX.a rfl ?_ | refine KX.b rfl ?_ | refine KX.c rfl ?_)
set_option maxRecDepth 20000 in
theorem kx_f_M_step_50 (a1 : Int) (a2 : Int) (g : G2) : XV  g (f_M_step_50 a1 a2 g) := by
  unfold f_M_step_50
  repeat' (with_reducible first | refine XV.ite ?_ ?_ | refine XV.bd ?_ (fun _ _ _ => ?_) | refine XV.bind ?_ (fun _ _ => ?_) | exact XV.no | refine XV.so ?_ | refine XO.via (kx_f_M_apply_50 ..) ?_ | refine XV.via (kx_f_M_apply_50 ..) ?_ | refine XO.via (kx_f_M_fail_50 ..) ?_ | refine XV.via (kx_f_M_fail_50 ..) ?_ | refine XO.via (kx_f_M_pushHypothesis_50 ..) ?_ | refine XV.via (kx_f_M_pushHypothesis_50 ..) ?_ | refine XO.via (kx_f_M_tally_50 ..) ?_ | refine XV.via (kx_f_M_tally_50 ..) ?_ | assumption | exact KX.rf | refine KX.i rfl ?_ | refine KX.j rfl ?_ | refine KX.a rfl ?_ | refine KX.b rfl ?_ | refine KX.c rfl ?_)
set_option maxRecDepth 20000 in
theorem kx_b_M_readSteps_50_0 (L : Nat → Int → G2 → Option (G2)) (i1 : Int) (g : G2) (hL : ∀ x0 x1 g, XV  g (L x0 x1 g)) : XV  g (b_M_readSteps_50_0 L i1 g) := by
  unfold b_M_readSteps_50_0
  repeat' (with_reducible first | refine XV.ite ?_ ?_ | refine XV.bd ?_ (fun _ _ _ => ?_) | refine XV.bind ?_ (fun _ _ => ?_) | exact XV.no | refine XV.so ?_ | refine XO.via (kx_f_M_fail_50 ..) ?_ | refine XV.via (kx_f_M_fail_50 ..) ?_ | refine XO.via (kx_f_M_isWord_50 ..) ?_ | refine XV.via (kx_f_M_isWord_50 ..) ?_ | refine XO.via (kx_f_M_lookUp_50 ..) ?_ | refine XV.via (kx_f_M_lookUp_50 ..) ?_ | refine XO.via (kx_f_M_need_50 ..) ?_ | refine XV.via (kx_f_M_need_50 ..) ?_ | refine XO.via (kx_f_M_step_50 ..) ?_ | refine XV.via (kx_f_M_step_50 ..) ?_ | refine XV.via (hL ..) ?_ | assumption | exact KX.rf | refine KX.i rfl ?_ | refine KX.j rfl ?_ | refine KX.a rfl ?_ | refine KX.b rfl ?_ | refine KX.c rfl ?_)
set_option maxRecDepth 20000 in
theorem kx_l_M_readSteps_50 : ∀ (n : Nat) (x0 : Nat) (x1 : Int) (g : G2), XV  g (l_M_readSteps_50 n x0 x1 g) := by
  intro n
  induction n with
  | zero => intros; exact XV.no
  | succ n ih =>
    intro x0 x1 g
    unfold l_M_readSteps_50
    try dsimp only
    first | (split <;> (first  | exact kx_b_M_readSteps_50_0 _ _ _ ih)) | (first  | exact kx_b_M_readSteps_50_0 _ _ _ ih)
set_option maxRecDepth 20000 in
theorem kx_f_M_readSteps_50 (a1 : Int) (g : G2) : XV  g (f_M_readSteps_50 a1 g) := by
  unfold f_M_readSteps_50
  repeat' (with_reducible first | refine XV.ite ?_ ?_ | refine XV.bd ?_ (fun _ _ _ => ?_) | refine XV.bind ?_ (fun _ _ => ?_) | exact XV.no | refine XV.so ?_ | refine XO.via (kx_l_M_readSteps_50 ..) ?_ | refine XV.via (kx_l_M_readSteps_50 ..) ?_ | assumption | exact KX.rf | refine KX.i rfl ?_ | refine KX.j rfl ?_ | refine KX.a rfl ?_ | refine KX.b rfl ?_ | refine KX.c rfl ?_)
set_option maxRecDepth 20000 in
theorem kx_b_M_finish_50_0 (L : Nat → Int → Int → G2 → Option (G2)) (i1 : Int) (i2 : Int) (g : G2) (hL : ∀ x0 x1 x2 g, XV  g (L x0 x1 x2 g)) : XV  g (b_M_finish_50_0 L i1 i2 g) := by
  unfold b_M_finish_50_0
  repeat' (with_reducible first | refine XV.ite ?_ ?_ | refine XV.bd ?_ (fun _ _ _ => ?_) | refine XV.bind ?_ (fun _ _ => ?_) | exact XV.no | refine XV.so ?_ | refine XO.via (kx_f_M_fail_50 ..) ?_ | refine XV.via (kx_f_M_fail_50 ..) ?_ | refine XV.via (hL ..) ?_ | assumption | exact KX.rf | refine KX.i rfl ?_ | refine KX.j rfl ?_ | refine KX.a rfl ?_ | refine KX.b rfl ?_ | refine KX.c rfl ?_)
set_option maxRecDepth 20000 in
theorem kx_l_M_finish_50 : ∀ (n : Nat) (x0 : Nat) (x1 : Int) (x2 : Int) (g : G2), XV  g (l_M_finish_50 n x0 x1 x2 g) := by
  intro n
  induction n with
  | zero => intros; exact XV.no
  | succ n ih =>
    intro x0 x1 x2 g
    unfold l_M_finish_50
    try dsimp only
    first | (split <;> (first  | exact kx_b_M_finish_50_0 _ _ _ _ ih)) | (first  | exact kx_b_M_finish_50_0 _ _ _ _ ih)
set_option maxRecDepth 20000 in
theorem kx_f_M_finish_50 (g : G2) : XV  g (f_M_finish_50 g) := by
  unfold f_M_finish_50
  repeat' (with_reducible first | refine XV.ite ?_ ?_ | refine XV.bd ?_ (fun _ _ _ => ?_) | refine XV.bind ?_ (fun _ _ => ?_) | exact XV.no | refine XV.so ?_ | refine XO.via (kx_f_M_fail_50 ..) ?_ | refine XV.via (kx_f_M_fail_50 ..) ?_ | refine XO.via (kx_l_M_finish_50 ..) ?_ | refine XV.via (kx_l_M_finish_50 ..) ?_ | assumption | exact KX.rf | refine KX.i rfl ?_ | refine KX.j rfl ?_ | refine KX.a rfl ?_ | refine KX.b rfl ?_ | refine KX.c rfl ?_)
set_option maxRecDepth 20000 in
theorem kx_b_M_isMandatory_50_0 (L : Nat → Int → Int → Int → G2 → Option (Int × G2)) (i1 : Int) (i2 : Int) (i3 : Int) (g : G2) (hL : ∀ x0 x1 x2 x3 g, XO  g (L x0 x1 x2 x3 g)) : XO  g (b_M_isMandatory_50_0 L i1 i2 i3 g) := by
  unfold b_M_isMandatory_50_0
  repeat' (with_reducible first | refine XO.ite ?_ ?_ | refine XO.bd ?_ (fun _ _ _ => ?_) | refine XO.bind ?_ (fun _ _ => ?_) | exact XO.no | refine XO.so ?_ | refine XO.via (hL ..) ?_ | assumption | exact KX.rf | refine KX.i rfl ?_ | refine KX.j rfl ?_ | refine KX.a rfl ?_ | refine KX.b rfl ?_ | refine KX.c rfl ?_)
set_option maxRecDepth 20000 in
theorem kx_l_M_isMandatory_50 : ∀ (n : Nat) (x0 : Nat) (x1 : Int) (x2 : Int) (x3 : Int) (g : G2), XO  g (l_M_isMandatory_50 n x0 x1 x2 x3 g) := by
  intro n
  induction n with
  | zero => intros; exact XO.no
  | succ n ih =>
    intro x0 x1 x2 x3 g
    unfold l_M_isMandatory_50
    try dsimp only
    first | (split <;> (first  | exact kx_b_M_isMandatory_50_0 _ _ _ _ _ ih)) | (first  | exact kx_b_M_isMandatory_50_0 _ _ _ _ _ ih)
set_option maxRecDepth 20000 in
theorem kx_f_M_isMandatory_50 (a1 : Int) (a2 : Int) (g : G2) : XO  g (f_M_isMandatory_50 a1 a2 g) := by
  unfold f_M_isMandatory_50
  repeat' (with_reducible first | refine XO.ite ?_ ?_ | refine XO.bd ?_ (fun _ _ _ => ?_) | refine XO.bind ?_ (fun _ _ => ?_) | exact XO.no | refine XO.so ?_ | refine XO.via (kx_l_M_isMandatory_50 ..) ?_ | refine XV.via (kx_l_M_isMandatory_50 ..) ?_ | assumption | exact KX.rf | refine KX.i rfl ?_ | refine KX.j rfl ?_ | refine KX.a rfl ?_ | refine KX.b rfl ?_ | refine KX.c rfl ?_)
set_option maxRecDepth 20000 in
theorem kx_b_M_readListed_50_0 (L : Nat → Int → Int → G2 → Option (G2)) (i1 : Int) (i2 : Int) (g : G2) (hL : ∀ x0 x1 x2 g, XV  g (L x0 x1 x2 g)) : XV  g (b_M_readListed_50_0 L i1 i2 g) := by
  unfold b_M_readListed_50_0
  repeat' (with_reducible first | refine XV.ite ?_ ?_ | refine XV.bd ?_ (fun _ _ _ => ?_) | refine XV.bind ?_ (fun _ _ => ?_) | exact XV.no | refine XV.so ?_ | refine XO.via (kx_f_M_fail_50 ..) ?_ | refine XV.via (kx_f_M_fail_50 ..) ?_ | refine XO.via (kx_f_M_isMandatory_50 ..) ?_ | refine XV.via (kx_f_M_isMandatory_50 ..) ?_ | refine XO.via (kx_f_M_isWord_50 ..) ?_ | refine XV.via (kx_f_M_isWord_50 ..) ?_ | refine XO.via (kx_f_M_lookUp_50 ..) ?_ | refine XV.via (kx_f_M_lookUp_50 ..) ?_ | refine XO.via (kx_f_M_needName_50 ..) ?_ | refine XV.via (kx_f_M_needName_50 ..) ?_ | refine XV.via (hL ..) ?_ | assumption | exact KX.rf | refine KX.i rfl ?_ | refine KX.j rfl ?_ | refine KX.a rfl ?_ | refine KX.b rfl ?_ | refine KX.c rfl ?_)
set_option maxRecDepth 20000 in
theorem kx_b_M_readListed_50_1 (L : Nat → Int → Int → G2 → Option (G2)) (i1 : Int) (i2 : Int) (g : G2) (hL : ∀ x0 x1 x2 g, XV  g (L x0 x1 x2 g)) : XV  g (b_M_readListed_50_1 L i1 i2 g) := by
  unfold b_M_readListed_50_1
  repeat' (with_reducible first | refine XV.ite ?_ ?_ | refine XV.bd ?_ (fun _ _ _ => ?_) | refine XV.bind ?_ (fun _ _ => ?_) | exact XV.no | refine XV.so ?_ | refine XO.via (kx_f_M_fail_50 ..) ?_ | refine XV.via (kx_f_M_fail_50 ..) ?_ | refine XV.via (hL ..) ?_ | assumption | exact KX.rf | refine KX.i rfl ?_ | refine KX.j rfl ?_ | refine KX.a rfl ?_ | refine KX.b rfl ?_ | refine KX.c rfl ?_)
set_option maxRecDepth 20000 in
theorem kx_b_M_readListed_50_2 (L : Nat → Int → Int → G2 → Option (G2)) (i1 : Int) (i2 : Int) (g : G2) (hL : ∀ x0 x1 x2 g, XV  g (L x0 x1 x2 g)) : XV  g (b_M_readListed_50_2 L i1 i2 g) := by
  unfold b_M_readListed_50_2
  repeat' (with_reducible first | refine XV.ite ?_ ?_ | refine XV.bd ?_ (fun _ _ _ => ?_) | refine XV.bind ?_ (fun _ _ => ?_) | exact XV.no | refine XV.so ?_ | refine XV.via (hL ..) ?_ | assumption | exact KX.rf | refine KX.i rfl ?_ | refine KX.j rfl ?_ | refine KX.a rfl ?_ | refine KX.b rfl ?_ | refine KX.c rfl ?_)
set_option maxRecDepth 20000 in
theorem kx_b_M_readListed_50_3 (L : Nat → Int → Int → G2 → Option (G2)) (i1 : Int) (i2 : Int) (g : G2) (hL : ∀ x0 x1 x2 g, XV  g (L x0 x1 x2 g)) : XV  g (b_M_readListed_50_3 L i1 i2 g) := by
  unfold b_M_readListed_50_3
  repeat' (with_reducible first | refine XV.ite ?_ ?_ | refine XV.bd ?_ (fun _ _ _ => ?_) | refine XV.bind ?_ (fun _ _ => ?_) | exact XV.no | refine XV.so ?_ | refine XV.via (hL ..) ?_ | assumption | exact KX.rf | refine KX.i rfl ?_ | refine KX.j rfl ?_ | refine KX.a rfl ?_ | refine KX.b rfl ?_ | refine KX.c rfl ?_)
set_option maxRecDepth 20000 in
theorem kx_l_M_readListed_50 : ∀ (n : Nat) (x0 : Nat) (x1 : Int) (x2 : Int) (g : G2), XV  g (l_M_readListed_50 n x0 x1 x2 g) := by
  intro n
  induction n with
  | zero => intros; exact XV.no
  | succ n ih =>
    intro x0 x1 x2 g
    unfold l_M_readListed_50
    try dsimp only
    first | (split <;> (first  | exact kx_b_M_readListed_50_0 _ _ _ _ ih | exact kx_b_M_readListed_50_1 _ _ _ _ ih | exact kx_b_M_readListed_50_2 _ _ _ _ ih | exact kx_b_M_readListed_50_3 _ _ _ _ ih)) | (first  | exact kx_b_M_readListed_50_0 _ _ _ _ ih | exact kx_b_M_readListed_50_1 _ _ _ _ ih | exact kx_b_M_readListed_50_2 _ _ _ _ ih | exact kx_b_M_readListed_50_3 _ _ _ _ ih)
set_option maxRecDepth 20000 in
theorem kx_f_M_readListed_50 (a1 : Int) (g : G2) : XV  g (f_M_readListed_50 a1 g) := by
  unfold f_M_readListed_50
  repeat' (with_reducible first | refine XV.ite ?_ ?_ | refine XV.bd ?_ (fun _ _ _ => ?_) | refine XV.bind ?_ (fun _ _ => ?_) | exact XV.no | refine XV.so ?_ | refine XO.via (kx_l_M_readListed_50 ..) ?_ | refine XV.via (kx_l_M_readListed_50 ..) ?_ | assumption | exact KX.rf | refine KX.i rfl ?_ | refine KX.j rfl ?_ | refine KX.a rfl ?_ | refine KX.b rfl ?_ | refine KX.c rfl ?_)
set_option maxRecDepth 20000 in
theorem kx_b_M_isLetters_50_0 (L : Nat → Int → G2 → Option (Int × G2)) (i1 : Int) (g : G2) (hL : ∀ x0 x1 g, XO  g (L x0 x1 g)) : XO  g (b_M_isLetters_50_0 L i1 g) := by
  unfold b_M_isLetters_50_0
  repeat' (with_reducible first | refine XO.ite ?_ ?_ | refine XO.bd ?_ (fun _ _ _ => ?_) | refine XO.bind ?_ (fun _ _ => ?_) | exact XO.no | refine XO.so ?_ | refine XO.via (kx_f_M_letter_50 ..) ?_ | refine XV.via (kx_f_M_letter_50 ..) ?_ | refine XO.via (hL ..) ?_ | assumption | exact KX.rf | refine KX.i rfl ?_ | refine KX.j rfl ?_ | refine KX.a rfl ?_ | refine KX.b rfl ?_ | refine KX.c rfl ?_)
set_option maxRecDepth 20000 in
theorem kx_l_M_isLetters_50 : ∀ (n : Nat) (x0 : Nat) (x1 : Int) (g : G2), XO  g (l_M_isLetters_50 n x0 x1 g) := by
  intro n
  induction n with
  | zero => intros; exact XO.no
  | succ n ih =>
    intro x0 x1 g
    unfold l_M_isLetters_50
    try dsimp only
    first | (split <;> (first  | exact kx_b_M_isLetters_50_0 _ _ _ ih)) | (first  | exact kx_b_M_isLetters_50_0 _ _ _ ih)
set_option maxRecDepth 20000 in
theorem kx_f_M_isLetters_50 (g : G2) : XO  g (f_M_isLetters_50 g) := by
  unfold f_M_isLetters_50
  repeat' (with_reducible first | refine XO.ite ?_ ?_ | refine XO.bd ?_ (fun _ _ _ => ?_) | refine XO.bind ?_ (fun _ _ => ?_) | exact XO.no | refine XO.so ?_ | refine XO.via (kx_l_M_isLetters_50 ..) ?_ | refine XV.via (kx_l_M_isLetters_50 ..) ?_ | assumption | exact KX.rf | refine KX.i rfl ?_ | refine KX.j rfl ?_ | refine KX.a rfl ?_ | refine KX.b rfl ?_ | refine KX.c rfl ?_)
set_option maxRecDepth 20000 in
theorem kx_b_M_tag_50_0 (L : Nat → Int → G2 → Option (G2)) (i1 : Int) (g : G2) (hL : ∀ x0 x1 g, XV  g (L x0 x1 g)) : XV  g (b_M_tag_50_0 L i1 g) := by
  unfold b_M_tag_50_0
  repeat' (with_reducible first | refine XV.ite ?_ ?_ | refine XV.bd ?_ (fun _ _ _ => ?_) | refine XV.bind ?_ (fun _ _ => ?_) | exact XV.no | refine XV.so ?_ | refine XV.via (hL ..) ?_ | assumption | exact KX.rf | refine KX.i rfl ?_ | refine KX.j rfl ?_ | refine KX.a rfl ?_ | refine KX.b rfl ?_ | refine KX.c rfl ?_)
set_option maxRecDepth 20000 in
theorem kx_l_M_tag_50 : ∀ (n : Nat) (x0 : Nat) (x1 : Int) (g : G2), XV  g (l_M_tag_50 n x0 x1 g) := by
  intro n
  induction n with
  | zero => intros; exact XV.no
  | succ n ih =>
    intro x0 x1 g
    unfold l_M_tag_50
    try dsimp only
    first | (split <;> (first  | exact kx_b_M_tag_50_0 _ _ _ ih)) | (first  | exact kx_b_M_tag_50_0 _ _ _ ih)
set_option maxRecDepth 20000 in
theorem kx_f_M_tag_50 (g : G2) : XV  g (f_M_tag_50 g) := by
  unfold f_M_tag_50
  repeat' (with_reducible first | refine XV.ite ?_ ?_ | refine XV.bd ?_ (fun _ _ _ => ?_) | refine XV.bind ?_ (fun _ _ => ?_) | exact XV.no | refine XV.so ?_ | refine XO.via (kx_l_M_tag_50 ..) ?_ | refine XV.via (kx_l_M_tag_50 ..) ?_ | assumption | exact KX.rf | refine KX.i rfl ?_ | refine KX.j rfl ?_ | refine KX.a rfl ?_ | refine KX.b rfl ?_ | refine KX.c rfl ?_)
set_option maxRecDepth 20000 in
theorem kx_b_M_pushTagged_50_0 (L : Nat → Int → Int → G2 → Option (G2)) (i1 : Int) (i2 : Int) (g : G2) (hL : ∀ x0 x1 x2 g, XV  g (L x0 x1 x2 g)) : XV  g (b_M_pushTagged_50_0 L i1 i2 g) := by
  unfold b_M_pushTagged_50_0
  repeat' (with_reducible first | refine XV.ite ?_ ?_ | refine XV.bd ?_ (fun _ _ _ => ?_) | refine XV.bind ?_ (fun _ _ => ?_) | exact XV.no | refine XV.so ?_ | refine XV.via (hL ..) ?_ | assumption | exact KX.rf | refine KX.i rfl ?_ | refine KX.j rfl ?_ | refine KX.a rfl ?_ | refine KX.b rfl ?_ | refine KX.c rfl ?_)
set_option maxRecDepth 20000 in
theorem kx_l_M_pushTagged_50 : ∀ (n : Nat) (x0 : Nat) (x1 : Int) (x2 : Int) (g : G2), XV  g (l_M_pushTagged_50 n x0 x1 x2 g) := by
  intro n
  induction n with
  | zero => intros; exact XV.no
  | succ n ih =>
    intro x0 x1 x2 g
    unfold l_M_pushTagged_50
    try dsimp only
    first | (split <;> (first  | exact kx_b_M_pushTagged_50_0 _ _ _ _ ih)) | (first  | exact kx_b_M_pushTagged_50_0 _ _ _ _ ih)
set_option maxRecDepth 20000 in
theorem kx_f_M_pushTagged_50 (a1 : Int) (g : G2) : XV  g (f_M_pushTagged_50 a1 g) := by
  unfold f_M_pushTagged_50
  repeat' (with_reducible first | refine XV.ite ?_ ?_ | refine XV.bd ?_ (fun _ _ _ => ?_) | refine XV.bind ?_ (fun _ _ => ?_) | exact XV.no | refine XV.so ?_ | refine XO.via (kx_f_M_hasRoom_50 ..) ?_ | refine XV.via (kx_f_M_hasRoom_50 ..) ?_ | refine XO.via (kx_l_M_pushTagged_50 ..) ?_ | refine XV.via (kx_l_M_pushTagged_50 ..) ?_ | assumption | exact KX.rf | refine KX.i rfl ?_ | refine KX.j rfl ?_ | refine KX.a rfl ?_ | refine KX.b rfl ?_ | refine KX.c rfl ?_)
set_option maxRecDepth 20000 in
theorem kx_f_M_stepWith_50 (a1 : Int) (a2 : Int) (g : G2) : XV  g (f_M_stepWith_50 a1 a2 g) := by
  unfold f_M_stepWith_50
  repeat' (with_reducible first | refine XV.ite ?_ ?_ | refine XV.bd ?_ (fun _ _ _ => ?_) | refine XV.bind ?_ (fun _ _ => ?_) | exact XV.no | refine XV.so ?_ | refine XO.via (kx_f_M_fail_50 ..) ?_ | refine XV.via (kx_f_M_fail_50 ..) ?_ | refine XO.via (kx_f_M_pushTagged_50 ..) ?_ | refine XV.via (kx_f_M_pushTagged_50 ..) ?_ | refine XO.via (kx_f_M_step_50 ..) ?_ | refine XV.via (kx_f_M_step_50 ..) ?_ | refine XO.via (kx_f_M_tally_50 ..) ?_ | refine XV.via (kx_f_M_tally_50 ..) ?_ | assumption | exact KX.rf | refine KX.i rfl ?_ | refine KX.j rfl ?_ | refine KX.a rfl ?_ | refine KX.b rfl ?_ | refine KX.c rfl ?_)
set_option maxRecDepth 20000 in
theorem kx_b_M_readLetter_50_0 (L : Nat → G2 → Option (G2)) (g : G2) (hL : ∀ x0 g, XV  g (L x0 g)) : XV  g (b_M_readLetter_50_0 L g) := by
  unfold b_M_readLetter_50_0
  repeat' (with_reducible first | refine XV.ite ?_ ?_ | refine XV.bd ?_ (fun _ _ _ => ?_) | refine XV.bind ?_ (fun _ _ => ?_) | exact XV.no | refine XV.so ?_ | refine XV.via (hL ..) ?_ | assumption | exact KX.rf | refine KX.i rfl ?_ | refine KX.j rfl ?_ | refine KX.a rfl ?_ | refine KX.b rfl ?_ | refine KX.c rfl ?_)
set_option maxRecDepth 20000 in
theorem kx_b_M_readLetter_50_1 (L : Nat → G2 → Option (G2)) (g : G2) (hL : ∀ x0 g, XV  g (L x0 g)) : XV  g (b_M_readLetter_50_1 L g) := by
  unfold b_M_readLetter_50_1
  repeat' (with_reducible first | refine XV.ite ?_ ?_ | refine XV.bd ?_ (fun _ _ _ => ?_) | refine XV.bind ?_ (fun _ _ => ?_) | exact XV.no | refine XV.so ?_ | refine XV.via (hL ..) ?_ | assumption | exact KX.rf | refine KX.i rfl ?_ | refine KX.j rfl ?_ | refine KX.a rfl ?_ | refine KX.b rfl ?_ | refine KX.c rfl ?_)
set_option maxRecDepth 20000 in
theorem kx_b_M_readLetter_50_2 (L : Nat → G2 → Option (G2)) (g : G2) (hL : ∀ x0 g, XV  g (L x0 g)) : XV  g (b_M_readLetter_50_2 L g) := by
  unfold b_M_readLetter_50_2
  repeat' (with_reducible first | refine XV.ite ?_ ?_ | refine XV.bd ?_ (fun _ _ _ => ?_) | refine XV.bind ?_ (fun _ _ => ?_) | exact XV.no | refine XV.so ?_ | refine XV.via (hL ..) ?_ | assumption | exact KX.rf | refine KX.i rfl ?_ | refine KX.j rfl ?_ | refine KX.a rfl ?_ | refine KX.b rfl ?_ | refine KX.c rfl ?_)
set_option maxRecDepth 20000 in
theorem kx_l_M_readLetter_50 : ∀ (n : Nat) (x0 : Nat) (g : G2), XV  g (l_M_readLetter_50 n x0 g) := by
  intro n
  induction n with
  | zero => intros; exact XV.no
  | succ n ih =>
    intro x0 g
    unfold l_M_readLetter_50
    try dsimp only
    first | (split <;> (first  | exact kx_b_M_readLetter_50_0 _ _ ih | exact kx_b_M_readLetter_50_1 _ _ ih | exact kx_b_M_readLetter_50_2 _ _ ih)) | (first  | exact kx_b_M_readLetter_50_0 _ _ ih | exact kx_b_M_readLetter_50_1 _ _ ih | exact kx_b_M_readLetter_50_2 _ _ ih)
set_option maxRecDepth 20000 in
theorem kx_f_M_readLetter_50 (a1 : Int) (a2 : Int) (g : G2) : XV  g (f_M_readLetter_50 a1 a2 g) := by
  unfold f_M_readLetter_50
  repeat' (with_reducible first | refine XV.ite ?_ ?_ | refine XV.bd ?_ (fun _ _ _ => ?_) | refine XV.bind ?_ (fun _ _ => ?_) | exact XV.no | refine XV.so ?_ | refine XO.via (kx_f_M_fail_50 ..) ?_ | refine XV.via (kx_f_M_fail_50 ..) ?_ | refine XO.via (kx_f_M_stepWith_50 ..) ?_ | refine XV.via (kx_f_M_stepWith_50 ..) ?_ | refine XO.via (kx_f_M_tag_50 ..) ?_ | refine XV.via (kx_f_M_tag_50 ..) ?_ | refine XO.via (kx_l_M_readLetter_50 ..) ?_ | refine XV.via (kx_l_M_readLetter_50 ..) ?_ | assumption | exact KX.rf | refine KX.i rfl ?_ | refine KX.j rfl ?_ | refine KX.a rfl ?_ | refine KX.b rfl ?_ | refine KX.c rfl ?_)
set_option maxRecDepth 20000 in
theorem kx_b_M_readLetters_50_0 (L : Nat → Int → Int → G2 → Option (G2)) (i1 : Int) (i3 : Int) (g : G2) (hL : ∀ x0 x1 x2 g, XV  g (L x0 x1 x2 g)) : XV  g (b_M_readLetters_50_0 L i1 i3 g) := by
  unfold b_M_readLetters_50_0
  repeat' (with_reducible first | refine XV.ite ?_ ?_ | refine XV.bd ?_ (fun _ _ _ => ?_) | refine XV.bind ?_ (fun _ _ => ?_) | exact XV.no | refine XV.so ?_ | refine XO.via (kx_f_M_fail_50 ..) ?_ | refine XV.via (kx_f_M_fail_50 ..) ?_ | refine XO.via (kx_f_M_isLetters_50 ..) ?_ | refine XV.via (kx_f_M_isLetters_50 ..) ?_ | refine XO.via (kx_f_M_need_50 ..) ?_ | refine XV.via (kx_f_M_need_50 ..) ?_ | refine XV.via (hL ..) ?_ | assumption | exact KX.rf | refine KX.i rfl ?_ | refine KX.j rfl ?_ | refine KX.a rfl ?_ | refine KX.b rfl ?_ | refine KX.c rfl ?_)
set_option maxRecDepth 20000 in
theorem kx_b_M_readLetters_50_1 (L : Nat → Int → Int → G2 → Option (G2)) (i1 : Int) (i3 : Int) (g : G2) (hL : ∀ x0 x1 x2 g, XV  g (L x0 x1 x2 g)) : XV  g (b_M_readLetters_50_1 L i1 i3 g) := by
  unfold b_M_readLetters_50_1
  repeat' (with_reducible first | refine XV.ite ?_ ?_ | refine XV.bd ?_ (fun _ _ _ => ?_) | refine XV.bind ?_ (fun _ _ => ?_) | exact XV.no | refine XV.so ?_ | refine XV.via (hL ..) ?_ | assumption | exact KX.rf | refine KX.i rfl ?_ | refine KX.j rfl ?_ | refine KX.a rfl ?_ | refine KX.b rfl ?_ | refine KX.c rfl ?_)
set_option maxRecDepth 20000 in
theorem kx_b_M_readLetters_50_2 (L : Nat → Int → Int → G2 → Option (G2)) (i1 : Int) (i3 : Int) (g : G2) (hL : ∀ x0 x1 x2 g, XV  g (L x0 x1 x2 g)) : XV  g (b_M_readLetters_50_2 L i1 i3 g) := by
  unfold b_M_readLetters_50_2
  repeat' (with_reducible first | refine XV.ite ?_ ?_ | refine XV.bd ?_ (fun _ _ _ => ?_) | refine XV.bind ?_ (fun _ _ => ?_) | exact XV.no | refine XV.so ?_ | refine XO.via (kx_f_M_fail_50 ..) ?_ | refine XV.via (kx_f_M_fail_50 ..) ?_ | refine XV.via (hL ..) ?_ | assumption | exact KX.rf | refine KX.i rfl ?_ | refine KX.j rfl ?_ | refine KX.a rfl ?_ | refine KX.b rfl ?_ | refine KX.c rfl ?_)
set_option maxRecDepth 20000 in
theorem kx_b_M_readLetters_50_3 (L : Nat → Int → Int → G2 → Option (G2)) (i1 : Int) (i3 : Int) (g : G2) (hL : ∀ x0 x1 x2 g, XV  g (L x0 x1 x2 g)) : XV  g (b_M_readLetters_50_3 L i1 i3 g) := by
  unfold b_M_readLetters_50_3
  repeat' (with_reducible first | refine XV.ite ?_ ?_ | refine XV.bd ?_ (fun _ _ _ => ?_) | refine XV.bind ?_ (fun _ _ => ?_) | exact XV.no | refine XV.so ?_ | refine XV.via (hL ..) ?_ | assumption | exact KX.rf | refine KX.i rfl ?_ | refine KX.j rfl ?_ | refine KX.a rfl ?_ | refine KX.b rfl ?_ | refine KX.c rfl ?_)
set_option maxRecDepth 20000 in
theorem kx_b_M_readLetters_50_4 (L : Nat → Int → Int → G2 → Option (G2)) (i1 : Int) (i3 : Int) (g : G2) (hL : ∀ x0 x1 x2 g, XV  g (L x0 x1 x2 g)) : XV  g (b_M_readLetters_50_4 L i1 i3 g) := by
  unfold b_M_readLetters_50_4
  repeat' (with_reducible first | refine XV.ite ?_ ?_ | refine XV.bd ?_ (fun _ _ _ => ?_) | refine XV.bind ?_ (fun _ _ => ?_) | exact XV.no | refine XV.so ?_ | refine XO.via (kx_f_M_letter_50 ..) ?_ | refine XV.via (kx_f_M_letter_50 ..) ?_ | refine XO.via (kx_f_M_readLetter_50 ..) ?_ | refine XV.via (kx_f_M_readLetter_50 ..) ?_ | refine XV.via (hL ..) ?_ | assumption | exact KX.rf | refine KX.i rfl ?_ | refine KX.j rfl ?_ | refine KX.a rfl ?_ | refine KX.b rfl ?_ | refine KX.c rfl ?_)
set_option maxRecDepth 20000 in
theorem kx_b_M_readLetters_50_5 (L : Nat → Int → Int → G2 → Option (G2)) (i1 : Int) (i3 : Int) (g : G2) (hL : ∀ x0 x1 x2 g, XV  g (L x0 x1 x2 g)) : XV  g (b_M_readLetters_50_5 L i1 i3 g) := by
  unfold b_M_readLetters_50_5
  repeat' (with_reducible first | refine XV.ite ?_ ?_ | refine XV.bd ?_ (fun _ _ _ => ?_) | refine XV.bind ?_ (fun _ _ => ?_) | exact XV.no | refine XV.so ?_ | refine XV.via (hL ..) ?_ | assumption | exact KX.rf | refine KX.i rfl ?_ | refine KX.j rfl ?_ | refine KX.a rfl ?_ | refine KX.b rfl ?_ | refine KX.c rfl ?_)
set_option maxRecDepth 20000 in
theorem kx_l_M_readLetters_50 : ∀ (n : Nat) (x0 : Nat) (x1 : Int) (x2 : Int) (g : G2), XV  g (l_M_readLetters_50 n x0 x1 x2 g) := by
  intro n
  induction n with
  | zero => intros; exact XV.no
  | succ n ih =>
    intro x0 x1 x2 g
    unfold l_M_readLetters_50
    try dsimp only
    first | (split <;> (first  | exact kx_b_M_readLetters_50_0 _ _ _ _ ih | exact kx_b_M_readLetters_50_1 _ _ _ _ ih | exact kx_b_M_readLetters_50_2 _ _ _ _ ih | exact kx_b_M_readLetters_50_3 _ _ _ _ ih | exact kx_b_M_readLetters_50_4 _ _ _ _ ih | exact kx_b_M_readLetters_50_5 _ _ _ _ ih)) | (first  | exact kx_b_M_readLetters_50_0 _ _ _ _ ih | exact kx_b_M_readLetters_50_1 _ _ _ _ ih | exact kx_b_M_readLetters_50_2 _ _ _ _ ih | exact kx_b_M_readLetters_50_3 _ _ _ _ ih | exact kx_b_M_readLetters_50_4 _ _ _ _ ih | exact kx_b_M_readLetters_50_5 _ _ _ _ ih)
set_option maxRecDepth 20000 in
theorem kx_f_M_readLetters_50 (a1 : Int) (g : G2) : XV  g (f_M_readLetters_50 a1 g) := by
  unfold f_M_readLetters_50
  repeat' (with_reducible first | refine XV.ite ?_ ?_ | refine XV.bd ?_ (fun _ _ _ => ?_) | refine XV.bind ?_ (fun _ _ => ?_) | exact XV.no | refine XV.so ?_ | refine XO.via (kx_l_M_readLetters_50 ..) ?_ | refine XV.via (kx_l_M_readLetters_50 ..) ?_ | assumption | exact KX.rf | refine KX.i rfl ?_ | refine KX.j rfl ?_ | refine KX.a rfl ?_ | refine KX.b rfl ?_ | refine KX.c rfl ?_)
set_option maxRecDepth 20000 in
theorem kx_f_M_readProof_50 (a1 : Int) (g : G2) : XV  g (f_M_readProof_50 a1 g) := by
  unfold f_M_readProof_50
  repeat' (with_reducible first | refine XV.ite ?_ ?_ | refine XV.bd ?_ (fun _ _ _ => ?_) | refine XV.bind ?_ (fun _ _ => ?_) | exact XV.no | refine XV.so ?_ | refine XO.via (kx_f_M_finish_50 ..) ?_ | refine XV.via (kx_f_M_finish_50 ..) ?_ | refine XO.via (kx_f_M_isWord_50 ..) ?_ | refine XV.via (kx_f_M_isWord_50 ..) ?_ | refine XO.via (kx_f_M_need_50 ..) ?_ | refine XV.via (kx_f_M_need_50 ..) ?_ | refine XO.via (kx_f_M_readLetters_50 ..) ?_ | refine XV.via (kx_f_M_readLetters_50 ..) ?_ | refine XO.via (kx_f_M_readListed_50 ..) ?_ | refine XV.via (kx_f_M_readListed_50 ..) ?_ | refine XO.via (kx_f_M_readSteps_50 ..) ?_ | refine XV.via (kx_f_M_readSteps_50 ..) ?_ | assumption | exact KX.rf | refine KX.i rfl ?_ | refine KX.j rfl ?_ | refine KX.a rfl ?_ | refine KX.b rfl ?_ | refine KX.c rfl ?_)
set_option maxRecDepth 20000 in
theorem kx_b_M_readLabelled_50_0 (L : Nat → Int64 → Int → Int → G2 → Option (G2)) (l1 : Int64) (i3 : Int) (i4 : Int) (g : G2) (hL : ∀ x0 x1 x2 x3 g, XV  g (L x0 x1 x2 x3 g)) : XV  g (b_M_readLabelled_50_0 L l1 i3 i4 g) := by
  unfold b_M_readLabelled_50_0
  repeat' (with_reducible first | refine XV.ite ?_ ?_ | refine XV.bd ?_ (fun _ _ _ => ?_) | refine XV.bind ?_ (fun _ _ => ?_) | exact XV.no | refine XV.so ?_ | refine XO.via (kx_f_M_fail_50 ..) ?_ | refine XV.via (kx_f_M_fail_50 ..) ?_ | refine XV.via (hL ..) ?_ | assumption | exact KX.rf | refine KX.i rfl ?_ | refine KX.j rfl ?_ | refine KX.a rfl ?_ | refine KX.b rfl ?_ | refine KX.c rfl ?_)
set_option maxRecDepth 20000 in
theorem kx_b_M_readLabelled_50_1 (L : Nat → Int64 → Int → Int → G2 → Option (G2)) (l1 : Int64) (i3 : Int) (i4 : Int) (g : G2) (hL : ∀ x0 x1 x2 x3 g, XV  g (L x0 x1 x2 x3 g)) : XV  g (b_M_readLabelled_50_1 L l1 i3 i4 g) := by
  unfold b_M_readLabelled_50_1
  repeat' (with_reducible first | refine XV.ite ?_ ?_ | refine XV.bd ?_ (fun _ _ _ => ?_) | refine XV.bind ?_ (fun _ _ => ?_) | exact XV.no | refine XV.so ?_ | refine XO.via (kx_f_M_begin_50 ..) ?_ | refine XV.via (kx_f_M_begin_50 ..) ?_ | refine XO.via (kx_f_M_findNeeds_50 ..) ?_ | refine XV.via (kx_f_M_findNeeds_50 ..) ?_ | refine XO.via (kx_f_M_readExpression_50 ..) ?_ | refine XV.via (kx_f_M_readExpression_50 ..) ?_ | refine XO.via (kx_f_M_readProof_50 ..) ?_ | refine XV.via (kx_f_M_readProof_50 ..) ?_ | refine XV.via (hL ..) ?_ | assumption | exact KX.rf | refine KX.i rfl ?_ | refine KX.j rfl ?_ | refine KX.a rfl ?_ | refine KX.b rfl ?_ | refine KX.c rfl ?_)
set_option maxRecDepth 20000 in
theorem kx_b_M_readLabelled_50_2 (L : Nat → Int64 → Int → Int → G2 → Option (G2)) (l1 : Int64) (i3 : Int) (i4 : Int) (g : G2) (hL : ∀ x0 x1 x2 x3 g, XV  g (L x0 x1 x2 x3 g)) : XV  g (b_M_readLabelled_50_2 L l1 i3 i4 g) := by
  unfold b_M_readLabelled_50_2
  repeat' (with_reducible first | refine XV.ite ?_ ?_ | refine XV.bd ?_ (fun _ _ _ => ?_) | refine XV.bind ?_ (fun _ _ => ?_) | exact XV.no | refine XV.so ?_ | refine XO.via (kx_f_M_declare_50 ..) ?_ | refine XV.via (kx_f_M_declare_50 ..) ?_ | refine XO.via (kx_f_M_settle_50 ..) ?_ | refine XV.via (kx_f_M_settle_50 ..) ?_ | refine XV.via (hL ..) ?_ | assumption | exact KX.rf | refine KX.i rfl ?_ | refine KX.j rfl ?_ | refine KX.a rfl ?_ | refine KX.b rfl ?_ | refine KX.c rfl ?_)
set_option maxRecDepth 20000 in
theorem kx_b_M_readLabelled_50_3 (L : Nat → Int64 → Int → Int → G2 → Option (G2)) (l1 : Int64) (i3 : Int) (i4 : Int) (g : G2) (hL : ∀ x0 x1 x2 x3 g, XV  g (L x0 x1 x2 x3 g)) : XV  g (b_M_readLabelled_50_3 L l1 i3 i4 g) := by
  unfold b_M_readLabelled_50_3
  repeat' (with_reducible first | refine XV.ite ?_ ?_ | refine XV.bd ?_ (fun _ _ _ => ?_) | refine XV.bind ?_ (fun _ _ => ?_) | exact XV.no | refine XV.so ?_ | refine XV.via (hL ..) ?_ | assumption | exact KX.rf | refine KX.i rfl ?_ | refine KX.j rfl ?_ | refine KX.a rfl ?_ | refine KX.b rfl ?_ | refine KX.c rfl ?_)
set_option maxRecDepth 20000 in
theorem kx_b_M_readLabelled_50_4 (L : Nat → Int64 → Int → Int → G2 → Option (G2)) (l1 : Int64) (i3 : Int) (i4 : Int) (g : G2) (hL : ∀ x0 x1 x2 x3 g, XV  g (L x0 x1 x2 x3 g)) : XV  g (b_M_readLabelled_50_4 L l1 i3 i4 g) := by
  unfold b_M_readLabelled_50_4
  repeat' (with_reducible first | refine XV.ite ?_ ?_ | refine XV.bd ?_ (fun _ _ _ => ?_) | refine XV.bind ?_ (fun _ _ => ?_) | exact XV.no | refine XV.so ?_ | refine XV.via (hL ..) ?_ | assumption | exact KX.rf | refine KX.i rfl ?_ | refine KX.j rfl ?_ | refine KX.a rfl ?_ | refine KX.b rfl ?_ | refine KX.c rfl ?_)
set_option maxRecDepth 20000 in
theorem kx_l_M_readLabelled_50 : ∀ (n : Nat) (x0 : Nat) (x1 : Int64) (x2 : Int) (x3 : Int) (g : G2), XV  g (l_M_readLabelled_50 n x0 x1 x2 x3 g) := by
  intro n
  induction n with
  | zero => intros; exact XV.no
  | succ n ih =>
    intro x0 x1 x2 x3 g
    unfold l_M_readLabelled_50
    try dsimp only
    first | (split <;> (first  | exact kx_b_M_readLabelled_50_0 _ _ _ _ _ ih | exact kx_b_M_readLabelled_50_1 _ _ _ _ _ ih | exact kx_b_M_readLabelled_50_2 _ _ _ _ _ ih | exact kx_b_M_readLabelled_50_3 _ _ _ _ _ ih | exact kx_b_M_readLabelled_50_4 _ _ _ _ _ ih)) | (first  | exact kx_b_M_readLabelled_50_0 _ _ _ _ _ ih | exact kx_b_M_readLabelled_50_1 _ _ _ _ _ ih | exact kx_b_M_readLabelled_50_2 _ _ _ _ _ ih | exact kx_b_M_readLabelled_50_3 _ _ _ _ _ ih | exact kx_b_M_readLabelled_50_4 _ _ _ _ _ ih)
set_option maxRecDepth 20000 in
theorem kx_f_M_readLabelled_50 (g : G2) : XV  g (f_M_readLabelled_50 g) := by
  unfold f_M_readLabelled_50
  repeat' (with_reducible first | refine XV.ite ?_ ?_ | refine XV.bd ?_ (fun _ _ _ => ?_) | refine XV.bind ?_ (fun _ _ => ?_) | exact XV.no | refine XV.so ?_ | refine XO.via (kx_f_M_codeOf_50 ..) ?_ | refine XV.via (kx_f_M_codeOf_50 ..) ?_ | refine XO.via (kx_f_M_fail_50 ..) ?_ | refine XV.via (kx_f_M_fail_50 ..) ?_ | refine XO.via (kx_f_M_find_50 ..) ?_ | refine XV.via (kx_f_M_find_50 ..) ?_ | refine XO.via (kx_f_M_need_50 ..) ?_ | refine XV.via (kx_f_M_need_50 ..) ?_ | refine XO.via (kx_f_M_readFloating_50 ..) ?_ | refine XV.via (kx_f_M_readFloating_50 ..) ?_ | refine XO.via (kx_l_M_readLabelled_50 ..) ?_ | refine XV.via (kx_l_M_readLabelled_50 ..) ?_ | assumption | exact KX.rf | refine KX.i rfl ?_ | refine KX.j rfl ?_ | refine KX.a rfl ?_ | refine KX.b rfl ?_ | refine KX.c rfl ?_)
set_option maxRecDepth 20000 in
theorem kx_b_M_readConstants_50_0 (L : Nat → Int → Int → G2 → Option (G2)) (i1 : Int) (i2 : Int) (g : G2) (hL : ∀ x0 x1 x2 g, XV  g (L x0 x1 x2 g)) : XV  g (b_M_readConstants_50_0 L i1 i2 g) := by
  unfold b_M_readConstants_50_0
  repeat' (with_reducible first | refine XV.ite ?_ ?_ | refine XV.bd ?_ (fun _ _ _ => ?_) | refine XV.bind ?_ (fun _ _ => ?_) | exact XV.no | refine XV.so ?_ | refine XO.via (kx_f_M_need_50 ..) ?_ | refine XV.via (kx_f_M_need_50 ..) ?_ | refine XV.via (hL ..) ?_ | assumption | exact KX.rf | refine KX.i rfl ?_ | refine KX.j rfl ?_ | refine KX.a rfl ?_ | refine KX.b rfl ?_ | refine KX.c rfl ?_)
set_option maxRecDepth 20000 in
theorem kx_b_M_readConstants_50_1 (L : Nat → Int → Int → G2 → Option (G2)) (i1 : Int) (i2 : Int) (g : G2) (hL : ∀ x0 x1 x2 g, XV  g (L x0 x1 x2 g)) : XV  g (b_M_readConstants_50_1 L i1 i2 g) := by
  unfold b_M_readConstants_50_1
  repeat' (with_reducible first | refine XV.ite ?_ ?_ | refine XV.bd ?_ (fun _ _ _ => ?_) | refine XV.bind ?_ (fun _ _ => ?_) | exact XV.no | refine XV.so ?_ | refine XO.via (kx_f_M_addName_50 ..) ?_ | refine XV.via (kx_f_M_addName_50 ..) ?_ | refine XO.via (kx_f_M_codeOf_50 ..) ?_ | refine XV.via (kx_f_M_codeOf_50 ..) ?_ | refine XO.via (kx_f_M_fail_50 ..) ?_ | refine XV.via (kx_f_M_fail_50 ..) ?_ | refine XO.via (kx_f_M_findWord_50 ..) ?_ | refine XV.via (kx_f_M_findWord_50 ..) ?_ | refine XV.via (hL ..) ?_ | assumption | exact KX.rf | refine KX.i rfl ?_ | refine KX.j rfl ?_ | refine KX.a rfl ?_ | refine KX.b rfl ?_ | refine KX.c rfl ?_)
set_option maxRecDepth 20000 in
theorem kx_b_M_readConstants_50_2 (L : Nat → Int → Int → G2 → Option (G2)) (i1 : Int) (i2 : Int) (g : G2) (hL : ∀ x0 x1 x2 g, XV  g (L x0 x1 x2 g)) : XV  g (b_M_readConstants_50_2 L i1 i2 g) := by
  unfold b_M_readConstants_50_2
  repeat' (with_reducible first | refine XV.ite ?_ ?_ | refine XV.bd ?_ (fun _ _ _ => ?_) | refine XV.bind ?_ (fun _ _ => ?_) | exact XV.no | refine XV.so ?_ | refine XV.via (hL ..) ?_ | assumption | exact KX.rf | refine KX.i rfl ?_ | refine KX.j rfl ?_ | refine KX.a rfl ?_ | refine KX.b rfl ?_ | refine KX.c rfl ?_)
set_option maxRecDepth 20000 in
theorem kx_l_M_readConstants_50 : ∀ (n : Nat) (x0 : Nat) (x1 : Int) (x2 : Int) (g : G2), XV  g (l_M_readConstants_50 n x0 x1 x2 g) := by
  intro n
  induction n with
  | zero => intros; exact XV.no
  | succ n ih =>
    intro x0 x1 x2 g
    unfold l_M_readConstants_50
    try dsimp only
    first | (split <;> (first  | exact kx_b_M_readConstants_50_0 _ _ _ _ ih | exact kx_b_M_readConstants_50_1 _ _ _ _ ih | exact kx_b_M_readConstants_50_2 _ _ _ _ ih)) | (first  | exact kx_b_M_readConstants_50_0 _ _ _ _ ih | exact kx_b_M_readConstants_50_1 _ _ _ _ ih | exact kx_b_M_readConstants_50_2 _ _ _ _ ih)
set_option maxRecDepth 20000 in
theorem kx_f_M_readConstants_50 (g : G2) : XV  g (f_M_readConstants_50 g) := by
  unfold f_M_readConstants_50
  repeat' (with_reducible first | refine XV.ite ?_ ?_ | refine XV.bd ?_ (fun _ _ _ => ?_) | refine XV.bind ?_ (fun _ _ => ?_) | exact XV.no | refine XV.so ?_ | refine XO.via (kx_f_M_fail_50 ..) ?_ | refine XV.via (kx_f_M_fail_50 ..) ?_ | refine XO.via (kx_l_M_readConstants_50 ..) ?_ | refine XV.via (kx_l_M_readConstants_50 ..) ?_ | assumption | exact KX.rf | refine KX.i rfl ?_ | refine KX.j rfl ?_ | refine KX.a rfl ?_ | refine KX.b rfl ?_ | refine KX.c rfl ?_)
set_option maxRecDepth 20000 in
theorem kx_b_M_readVariables_50_0 (L : Nat → Int → Int → Int → G2 → Option (G2)) (i1 : Int) (i2 : Int) (i3 : Int) (g : G2) (hL : ∀ x0 x1 x2 x3 g, XV  g (L x0 x1 x2 x3 g)) : XV  g (b_M_readVariables_50_0 L i1 i2 i3 g) := by
  unfold b_M_readVariables_50_0
  repeat' (with_reducible first | refine XV.ite ?_ ?_ | refine XV.bd ?_ (fun _ _ _ => ?_) | refine XV.bind ?_ (fun _ _ => ?_) | exact XV.no | refine XV.so ?_ | refine XO.via (kx_f_M_need_50 ..) ?_ | refine XV.via (kx_f_M_need_50 ..) ?_ | refine XV.via (hL ..) ?_ | assumption | exact KX.rf | refine KX.i rfl ?_ | refine KX.j rfl ?_ | refine KX.a rfl ?_ | refine KX.b rfl ?_ | refine KX.c rfl ?_)
set_option maxRecDepth 20000 in
theorem kx_b_M_readVariables_50_1 (L : Nat → Int → Int → Int → G2 → Option (G2)) (i1 : Int) (i2 : Int) (i3 : Int) (g : G2) (hL : ∀ x0 x1 x2 x3 g, XV  g (L x0 x1 x2 x3 g)) : XV  g (b_M_readVariables_50_1 L i1 i2 i3 g) := by
  unfold b_M_readVariables_50_1
  repeat' (with_reducible first | refine XV.ite ?_ ?_ | refine XV.bd ?_ (fun _ _ _ => ?_) | refine XV.bind ?_ (fun _ _ => ?_) | exact XV.no | refine XV.so ?_ | refine XO.via (kx_f_M_fail_50 ..) ?_ | refine XV.via (kx_f_M_fail_50 ..) ?_ | refine XO.via (kx_f_M_findWord_50 ..) ?_ | refine XV.via (kx_f_M_findWord_50 ..) ?_ | refine XV.via (hL ..) ?_ | assumption | exact KX.rf | refine KX.i rfl ?_ | refine KX.j rfl ?_ | refine KX.a rfl ?_ | refine KX.b rfl ?_ | refine KX.c rfl ?_)
set_option maxRecDepth 20000 in
theorem kx_b_M_readVariables_50_2 (L : Nat → Int → Int → Int → G2 → Option (G2)) (i1 : Int) (i2 : Int) (i3 : Int) (g : G2) (hL : ∀ x0 x1 x2 x3 g, XV  g (L x0 x1 x2 x3 g)) : XV  g (b_M_readVariables_50_2 L i1 i2 i3 g) := by
  unfold b_M_readVariables_50_2
  repeat' (with_reducible first | refine XV.ite ?_ ?_ | refine XV.bd ?_ (fun _ _ _ => ?_) | refine XV.bind ?_ (fun _ _ => ?_) | exact XV.no | refine XV.so ?_ | refine XO.via (kx_f_M_fail_50 ..) ?_ | refine XV.via (kx_f_M_fail_50 ..) ?_ | refine XV.via (hL ..) ?_ | assumption | exact KX.rf | refine KX.i rfl ?_ | refine KX.j rfl ?_ | refine KX.a rfl ?_ | refine KX.b rfl ?_ | refine KX.c rfl ?_)
set_option maxRecDepth 20000 in
theorem kx_b_M_readVariables_50_3 (L : Nat → Int → Int → Int → G2 → Option (G2)) (i1 : Int) (i2 : Int) (i3 : Int) (g : G2) (hL : ∀ x0 x1 x2 x3 g, XV  g (L x0 x1 x2 x3 g)) : XV  g (b_M_readVariables_50_3 L i1 i2 i3 g) := by
  unfold b_M_readVariables_50_3
  repeat' (with_reducible first | refine XV.ite ?_ ?_ | refine XV.bd ?_ (fun _ _ _ => ?_) | refine XV.bind ?_ (fun _ _ => ?_) | exact XV.no | refine XV.so ?_ | refine XO.via (kx_f_M_fail_50 ..) ?_ | refine XV.via (kx_f_M_fail_50 ..) ?_ | refine XV.via (hL ..) ?_ | assumption | exact KX.rf | refine KX.i rfl ?_ | refine KX.j rfl ?_ | refine KX.a rfl ?_ | refine KX.b rfl ?_ | refine KX.c rfl ?_)
set_option maxRecDepth 20000 in
theorem kx_b_M_readVariables_50_4 (L : Nat → Int → Int → Int → G2 → Option (G2)) (i1 : Int) (i2 : Int) (i3 : Int) (g : G2) (hL : ∀ x0 x1 x2 x3 g, XV  g (L x0 x1 x2 x3 g)) : XV  g (b_M_readVariables_50_4 L i1 i2 i3 g) := by
  unfold b_M_readVariables_50_4
  repeat' (with_reducible first | refine XV.ite ?_ ?_ | refine XV.bd ?_ (fun _ _ _ => ?_) | refine XV.bind ?_ (fun _ _ => ?_) | exact XV.no | refine XV.so ?_ | refine XO.via (kx_f_M_addName_50 ..) ?_ | refine XV.via (kx_f_M_addName_50 ..) ?_ | refine XO.via (kx_f_M_codeOf_50 ..) ?_ | refine XV.via (kx_f_M_codeOf_50 ..) ?_ | refine XV.via (hL ..) ?_ | assumption | exact KX.rf | refine KX.i rfl ?_ | refine KX.j rfl ?_ | refine KX.a rfl ?_ | refine KX.b rfl ?_ | refine KX.c rfl ?_)
set_option maxRecDepth 20000 in
theorem kx_b_M_readVariables_50_5 (L : Nat → Int → Int → Int → G2 → Option (G2)) (i1 : Int) (i2 : Int) (i3 : Int) (g : G2) (hL : ∀ x0 x1 x2 x3 g, XV  g (L x0 x1 x2 x3 g)) : XV  g (b_M_readVariables_50_5 L i1 i2 i3 g) := by
  unfold b_M_readVariables_50_5
  repeat' (with_reducible first | refine XV.ite ?_ ?_ | refine XV.bd ?_ (fun _ _ _ => ?_) | refine XV.bind ?_ (fun _ _ => ?_) | exact XV.no | refine XV.so ?_ | refine XV.via (hL ..) ?_ | assumption | exact KX.rf | refine KX.i rfl ?_ | refine KX.j rfl ?_ | refine KX.a rfl ?_ | refine KX.b rfl ?_ | refine KX.c rfl ?_)
set_option maxRecDepth 20000 in
theorem kx_l_M_readVariables_50 : ∀ (n : Nat) (x0 : Nat) (x1 : Int) (x2 : Int) (x3 : Int) (g : G2), XV  g (l_M_readVariables_50 n x0 x1 x2 x3 g) := by
  intro n
  induction n with
  | zero => intros; exact XV.no
  | succ n ih =>
    intro x0 x1 x2 x3 g
    unfold l_M_readVariables_50
    try dsimp only
    first | (split <;> (first  | exact kx_b_M_readVariables_50_0 _ _ _ _ _ ih | exact kx_b_M_readVariables_50_1 _ _ _ _ _ ih | exact kx_b_M_readVariables_50_2 _ _ _ _ _ ih | exact kx_b_M_readVariables_50_3 _ _ _ _ _ ih | exact kx_b_M_readVariables_50_4 _ _ _ _ _ ih | exact kx_b_M_readVariables_50_5 _ _ _ _ _ ih)) | (first  | exact kx_b_M_readVariables_50_0 _ _ _ _ _ ih | exact kx_b_M_readVariables_50_1 _ _ _ _ _ ih | exact kx_b_M_readVariables_50_2 _ _ _ _ _ ih | exact kx_b_M_readVariables_50_3 _ _ _ _ _ ih | exact kx_b_M_readVariables_50_4 _ _ _ _ _ ih | exact kx_b_M_readVariables_50_5 _ _ _ _ _ ih)
set_option maxRecDepth 20000 in
theorem kx_f_M_readVariables_50 (g : G2) : XV  g (f_M_readVariables_50 g) := by
  unfold f_M_readVariables_50
  repeat' (with_reducible first | refine XV.ite ?_ ?_ | refine XV.bd ?_ (fun _ _ _ => ?_) | refine XV.bind ?_ (fun _ _ => ?_) | exact XV.no | refine XV.so ?_ | refine XO.via (kx_l_M_readVariables_50 ..) ?_ | refine XV.via (kx_l_M_readVariables_50 ..) ?_ | assumption | exact KX.rf | refine KX.i rfl ?_ | refine KX.j rfl ?_ | refine KX.a rfl ?_ | refine KX.b rfl ?_ | refine KX.c rfl ?_)
set_option maxRecDepth 20000 in
theorem kx_b_M_stoodBefore_50_0 (L : Nat → Int → Int → Int → G2 → Option (Int × G2)) (i1 : Int) (i2 : Int) (i3 : Int) (g : G2) (hL : ∀ x0 x1 x2 x3 g, XO  g (L x0 x1 x2 x3 g)) : XO  g (b_M_stoodBefore_50_0 L i1 i2 i3 g) := by
  unfold b_M_stoodBefore_50_0
  repeat' (with_reducible first | refine XO.ite ?_ ?_ | refine XO.bd ?_ (fun _ _ _ => ?_) | refine XO.bind ?_ (fun _ _ => ?_) | exact XO.no | refine XO.so ?_ | refine XO.via (hL ..) ?_ | assumption | exact KX.rf | refine KX.i rfl ?_ | refine KX.j rfl ?_ | refine KX.a rfl ?_ | refine KX.b rfl ?_ | refine KX.c rfl ?_)
set_option maxRecDepth 20000 in
theorem kx_l_M_stoodBefore_50 : ∀ (n : Nat) (x0 : Nat) (x1 : Int) (x2 : Int) (x3 : Int) (g : G2), XO  g (l_M_stoodBefore_50 n x0 x1 x2 x3 g) := by
  intro n
  induction n with
  | zero => intros; exact XO.no
  | succ n ih =>
    intro x0 x1 x2 x3 g
    unfold l_M_stoodBefore_50
    try dsimp only
    first | (split <;> (first  | exact kx_b_M_stoodBefore_50_0 _ _ _ _ _ ih)) | (first  | exact kx_b_M_stoodBefore_50_0 _ _ _ _ _ ih)
set_option maxRecDepth 20000 in
theorem kx_f_M_stoodBefore_50 (a1 : Int) (a2 : Int) (g : G2) : XO  g (f_M_stoodBefore_50 a1 a2 g) := by
  unfold f_M_stoodBefore_50
  repeat' (with_reducible first | refine XO.ite ?_ ?_ | refine XO.bd ?_ (fun _ _ _ => ?_) | refine XO.bind ?_ (fun _ _ => ?_) | exact XO.no | refine XO.so ?_ | refine XO.via (kx_l_M_stoodBefore_50 ..) ?_ | refine XV.via (kx_l_M_stoodBefore_50 ..) ?_ | assumption | exact KX.rf | refine KX.i rfl ?_ | refine KX.j rfl ?_ | refine KX.a rfl ?_ | refine KX.b rfl ?_ | refine KX.c rfl ?_)
set_option maxRecDepth 20000 in
theorem kx_b_M_readApart_50_0 (L : Nat → Int → Int → Int → Int → G2 → Option (G2)) (i1 : Int) (i2 : Int) (i3 : Int) (i4 : Int) (g : G2) (hL : ∀ x0 x1 x2 x3 x4 g, XV  g (L x0 x1 x2 x3 x4 g)) : XV  g (b_M_readApart_50_0 L i1 i2 i3 i4 g) := by
  unfold b_M_readApart_50_0
  repeat' (with_reducible first | refine XV.ite ?_ ?_ | refine XV.bd ?_ (fun _ _ _ => ?_) | refine XV.bind ?_ (fun _ _ => ?_) | exact XV.no | refine XV.so ?_ | refine XO.via (kx_f_M_need_50 ..) ?_ | refine XV.via (kx_f_M_need_50 ..) ?_ | refine XV.via (hL ..) ?_ | assumption | exact KX.rf | refine KX.i rfl ?_ | refine KX.j rfl ?_ | refine KX.a rfl ?_ | refine KX.b rfl ?_ | refine KX.c rfl ?_)
set_option maxRecDepth 20000 in
theorem kx_b_M_readApart_50_1 (L : Nat → Int → Int → Int → Int → G2 → Option (G2)) (i1 : Int) (i2 : Int) (i3 : Int) (i4 : Int) (g : G2) (hL : ∀ x0 x1 x2 x3 x4 g, XV  g (L x0 x1 x2 x3 x4 g)) : XV  g (b_M_readApart_50_1 L i1 i2 i3 i4 g) := by
  unfold b_M_readApart_50_1
  repeat' (with_reducible first | refine XV.ite ?_ ?_ | refine XV.bd ?_ (fun _ _ _ => ?_) | refine XV.bind ?_ (fun _ _ => ?_) | exact XV.no | refine XV.so ?_ | refine XO.via (kx_f_M_fail_50 ..) ?_ | refine XV.via (kx_f_M_fail_50 ..) ?_ | refine XO.via (kx_f_M_findWord_50 ..) ?_ | refine XV.via (kx_f_M_findWord_50 ..) ?_ | refine XO.via (kx_f_M_isConstant_50 ..) ?_ | refine XV.via (kx_f_M_isConstant_50 ..) ?_ | refine XO.via (kx_f_M_isLive_50 ..) ?_ | refine XV.via (kx_f_M_isLive_50 ..) ?_ | refine XV.via (hL ..) ?_ | assumption | exact KX.rf | refine KX.i rfl ?_ | refine KX.j rfl ?_ | refine KX.a rfl ?_ | refine KX.b rfl ?_ | refine KX.c rfl ?_)
set_option maxRecDepth 20000 in
theorem kx_b_M_readApart_50_2 (L : Nat → Int → Int → Int → Int → G2 → Option (G2)) (i1 : Int) (i2 : Int) (i3 : Int) (i4 : Int) (g : G2) (hL : ∀ x0 x1 x2 x3 x4 g, XV  g (L x0 x1 x2 x3 x4 g)) : XV  g (b_M_readApart_50_2 L i1 i2 i3 i4 g) := by
  unfold b_M_readApart_50_2
  repeat' (with_reducible first | refine XV.ite ?_ ?_ | refine XV.bd ?_ (fun _ _ _ => ?_) | refine XV.bind ?_ (fun _ _ => ?_) | exact XV.no | refine XV.so ?_ | refine XO.via (kx_f_M_fail_50 ..) ?_ | refine XV.via (kx_f_M_fail_50 ..) ?_ | refine XO.via (kx_f_M_isConstant_50 ..) ?_ | refine XV.via (kx_f_M_isConstant_50 ..) ?_ | refine XO.via (kx_f_M_stoodBefore_50 ..) ?_ | refine XV.via (kx_f_M_stoodBefore_50 ..) ?_ | refine XV.via (hL ..) ?_ | assumption | exact KX.rf | refine KX.i rfl ?_ | refine KX.j rfl ?_ | refine KX.a rfl ?_ | refine KX.b rfl ?_ | refine KX.c rfl ?_)
set_option maxRecDepth 20000 in
theorem kx_b_M_readApart_50_3 (L : Nat → Int → Int → Int → Int → G2 → Option (G2)) (i1 : Int) (i2 : Int) (i3 : Int) (i4 : Int) (g : G2) (hL : ∀ x0 x1 x2 x3 x4 g, XV  g (L x0 x1 x2 x3 x4 g)) : XV  g (b_M_readApart_50_3 L i1 i2 i3 i4 g) := by
  unfold b_M_readApart_50_3
  repeat' (with_reducible first | refine XV.ite ?_ ?_ | refine XV.bd ?_ (fun _ _ _ => ?_) | refine XV.bind ?_ (fun _ _ => ?_) | exact XV.no | refine XV.so ?_ | refine XV.via (hL ..) ?_ | assumption | exact KX.rf | refine KX.i rfl ?_ | refine KX.j rfl ?_ | refine KX.a rfl ?_ | refine KX.b rfl ?_ | refine KX.c rfl ?_)
set_option maxRecDepth 20000 in
theorem kx_b_M_readApart_50_4 (L : Nat → Int → Int → Int → Int → G2 → Option (G2)) (i1 : Int) (i2 : Int) (i3 : Int) (i4 : Int) (g : G2) (hL : ∀ x0 x1 x2 x3 x4 g, XV  g (L x0 x1 x2 x3 x4 g)) : XV  g (b_M_readApart_50_4 L i1 i2 i3 i4 g) := by
  unfold b_M_readApart_50_4
  repeat' (with_reducible first | refine XV.ite ?_ ?_ | refine XV.bd ?_ (fun _ _ _ => ?_) | refine XV.bind ?_ (fun _ _ => ?_) | exact XV.no | refine XV.so ?_ | refine XO.via (kx_f_M_fail_50 ..) ?_ | refine XV.via (kx_f_M_fail_50 ..) ?_ | refine XV.via (hL ..) ?_ | assumption | exact KX.rf | refine KX.i rfl ?_ | refine KX.j rfl ?_ | refine KX.a rfl ?_ | refine KX.b rfl ?_ | refine KX.c rfl ?_)
set_option maxRecDepth 20000 in
theorem kx_b_M_readApart_50_5 (L : Nat → Int → Int → Int → Int → G2 → Option (G2)) (i1 : Int) (i2 : Int) (i3 : Int) (i4 : Int) (g : G2) (hL : ∀ x0 x1 x2 x3 x4 g, XV  g (L x0 x1 x2 x3 x4 g)) : XV  g (b_M_readApart_50_5 L i1 i2 i3 i4 g) := by
  unfold b_M_readApart_50_5
  repeat' (with_reducible first | refine XV.ite ?_ ?_ | refine XV.bd ?_ (fun _ _ _ => ?_) | refine XV.bind ?_ (fun _ _ => ?_) | exact XV.no | refine XV.so ?_ | refine XV.via (hL ..) ?_ | assumption | exact KX.rf | refine KX.i rfl ?_ | refine KX.j rfl ?_ | refine KX.a rfl ?_ | refine KX.b rfl ?_ | refine KX.c rfl ?_)
set_option maxRecDepth 20000 in
theorem kx_b_M_readApart_50_6 (L : Nat → Int → Int → Int → Int → G2 → Option (G2)) (i1 : Int) (i2 : Int) (i3 : Int) (i4 : Int) (g : G2) (hL : ∀ x0 x1 x2 x3 x4 g, XV  g (L x0 x1 x2 x3 x4 g)) : XV  g (b_M_readApart_50_6 L i1 i2 i3 i4 g) := by
  unfold b_M_readApart_50_6
  repeat' (with_reducible first | refine XV.ite ?_ ?_ | refine XV.bd ?_ (fun _ _ _ => ?_) | refine XV.bind ?_ (fun _ _ => ?_) | exact XV.no | refine XV.so ?_ | refine XV.via (hL ..) ?_ | assumption | exact KX.rf | refine KX.i rfl ?_ | refine KX.j rfl ?_ | refine KX.a rfl ?_ | refine KX.b rfl ?_ | refine KX.c rfl ?_)
set_option maxRecDepth 20000 in
theorem kx_l_M_readApart_50 : ∀ (n : Nat) (x0 : Nat) (x1 : Int) (x2 : Int) (x3 : Int) (x4 : Int) (g : G2), XV  g (l_M_readApart_50 n x0 x1 x2 x3 x4 g) := by
  intro n
  induction n with
  | zero => intros; exact XV.no
  | succ n ih =>
    intro x0 x1 x2 x3 x4 g
    unfold l_M_readApart_50
    try dsimp only
    first | (split <;> (first  | exact kx_b_M_readApart_50_0 _ _ _ _ _ _ ih | exact kx_b_M_readApart_50_1 _ _ _ _ _ _ ih | exact kx_b_M_readApart_50_2 _ _ _ _ _ _ ih | exact kx_b_M_readApart_50_3 _ _ _ _ _ _ ih | exact kx_b_M_readApart_50_4 _ _ _ _ _ _ ih | exact kx_b_M_readApart_50_5 _ _ _ _ _ _ ih | exact kx_b_M_readApart_50_6 _ _ _ _ _ _ ih)) | (first  | exact kx_b_M_readApart_50_0 _ _ _ _ _ _ ih | exact kx_b_M_readApart_50_1 _ _ _ _ _ _ ih | exact kx_b_M_readApart_50_2 _ _ _ _ _ _ ih | exact kx_b_M_readApart_50_3 _ _ _ _ _ _ ih | exact kx_b_M_readApart_50_4 _ _ _ _ _ _ ih | exact kx_b_M_readApart_50_5 _ _ _ _ _ _ ih | exact kx_b_M_readApart_50_6 _ _ _ _ _ _ ih)
set_option maxRecDepth 20000 in
theorem kx_f_M_readApart_50 (g : G2) : XV  g (f_M_readApart_50 g) := by
  unfold f_M_readApart_50
  repeat' (with_reducible first | refine XV.ite ?_ ?_ | refine XV.bd ?_ (fun _ _ _ => ?_) | refine XV.bind ?_ (fun _ _ => ?_) | exact XV.no | refine XV.so ?_ | refine XO.via (kx_l_M_readApart_50 ..) ?_ | refine XV.via (kx_l_M_readApart_50 ..) ?_ | assumption | exact KX.rf | refine KX.i rfl ?_ | refine KX.j rfl ?_ | refine KX.a rfl ?_ | refine KX.b rfl ?_ | refine KX.c rfl ?_)
set_option maxRecDepth 20000 in
theorem kx_b_M_closeScope_50_0 (L : Nat → Int → G2 → Option (G2)) (i1 : Int) (g : G2) (hL : ∀ x0 x1 g, XV  g (L x0 x1 g)) : XV  g (b_M_closeScope_50_0 L i1 g) := by
  unfold b_M_closeScope_50_0
  repeat' (with_reducible first | refine XV.ite ?_ ?_ | refine XV.bd ?_ (fun _ _ _ => ?_) | refine XV.bind ?_ (fun _ _ => ?_) | exact XV.no | refine XV.so ?_ | refine XV.via (hL ..) ?_ | assumption | exact KX.rf | refine KX.i rfl ?_ | refine KX.j rfl ?_ | refine KX.a rfl ?_ | refine KX.b rfl ?_ | refine KX.c rfl ?_)
set_option maxRecDepth 20000 in
theorem kx_b_M_closeScope_50_1 (L : Nat → Int → G2 → Option (G2)) (i1 : Int) (g : G2) (hL : ∀ x0 x1 g, XV  g (L x0 x1 g)) : XV  g (b_M_closeScope_50_1 L i1 g) := by
  unfold b_M_closeScope_50_1
  repeat' (with_reducible first | refine XV.ite ?_ ?_ | refine XV.bd ?_ (fun _ _ _ => ?_) | refine XV.bind ?_ (fun _ _ => ?_) | exact XV.no | refine XV.so ?_ | refine XV.via (hL ..) ?_ | assumption | exact KX.rf | refine KX.i rfl ?_ | refine KX.j rfl ?_ | refine KX.a rfl ?_ | refine KX.b rfl ?_ | refine KX.c rfl ?_)
set_option maxRecDepth 20000 in
theorem kx_b_M_closeScope_50_2 (L : Nat → Int → G2 → Option (G2)) (i1 : Int) (g : G2) (hL : ∀ x0 x1 g, XV  g (L x0 x1 g)) : XV  g (b_M_closeScope_50_2 L i1 g) := by
  unfold b_M_closeScope_50_2
  repeat' (with_reducible first | refine XV.ite ?_ ?_ | refine XV.bd ?_ (fun _ _ _ => ?_) | refine XV.bind ?_ (fun _ _ => ?_) | exact XV.no | refine XV.so ?_ | refine XV.via (hL ..) ?_ | assumption | exact KX.rf | refine KX.i rfl ?_ | refine KX.j rfl ?_ | refine KX.a rfl ?_ | refine KX.b rfl ?_ | refine KX.c rfl ?_)
set_option maxRecDepth 20000 in
theorem kx_b_M_closeScope_50_3 (L : Nat → Int → G2 → Option (G2)) (i1 : Int) (g : G2) (hL : ∀ x0 x1 g, XV  g (L x0 x1 g)) : XV  g (b_M_closeScope_50_3 L i1 g) := by
  unfold b_M_closeScope_50_3
  repeat' (with_reducible first | refine XV.ite ?_ ?_ | refine XV.bd ?_ (fun _ _ _ => ?_) | refine XV.bind ?_ (fun _ _ => ?_) | exact XV.no | refine XV.so ?_ | refine XV.via (hL ..) ?_ | assumption | exact KX.rf | refine KX.i rfl ?_ | refine KX.j rfl ?_ | refine KX.a rfl ?_ | refine KX.b rfl ?_ | refine KX.c rfl ?_)
set_option maxRecDepth 20000 in
theorem kx_l_M_closeScope_50 : ∀ (n : Nat) (x0 : Nat) (x1 : Int) (g : G2), XV  g (l_M_closeScope_50 n x0 x1 g) := by
  intro n
  induction n with
  | zero => intros; exact XV.no
  | succ n ih =>
    intro x0 x1 g
    unfold l_M_closeScope_50
    try dsimp only
    first | (split <;> (first  | exact kx_b_M_closeScope_50_0 _ _ _ ih | exact kx_b_M_closeScope_50_1 _ _ _ ih | exact kx_b_M_closeScope_50_2 _ _ _ ih | exact kx_b_M_closeScope_50_3 _ _ _ ih)) | (first  | exact kx_b_M_closeScope_50_0 _ _ _ ih | exact kx_b_M_closeScope_50_1 _ _ _ ih | exact kx_b_M_closeScope_50_2 _ _ _ ih | exact kx_b_M_closeScope_50_3 _ _ _ ih)
set_option maxRecDepth 20000 in
theorem kx_f_M_closeScope_50 (g : G2) : XV  g (f_M_closeScope_50 g) := by
  unfold f_M_closeScope_50
  repeat' (with_reducible first | refine XV.ite ?_ ?_ | refine XV.bd ?_ (fun _ _ _ => ?_) | refine XV.bind ?_ (fun _ _ => ?_) | exact XV.no | refine XV.so ?_ | refine XO.via (kx_l_M_closeScope_50 ..) ?_ | refine XV.via (kx_l_M_closeScope_50 ..) ?_ | assumption | exact KX.rf | refine KX.i rfl ?_ | refine KX.j rfl ?_ | refine KX.a rfl ?_ | refine KX.b rfl ?_ | refine KX.c rfl ?_)
set_option maxRecDepth 20000 in
theorem kx_b_M_readStatement_50_0 (L : Nat → G2 → Option (G2)) (g : G2) (hL : ∀ x0 g, XV  g (L x0 g)) : XV  g (b_M_readStatement_50_0 L g) := by
  unfold b_M_readStatement_50_0
  repeat' (with_reducible first | refine XV.ite ?_ ?_ | refine XV.bd ?_ (fun _ _ _ => ?_) | refine XV.bind ?_ (fun _ _ => ?_) | exact XV.no | refine XV.so ?_ | refine XV.via (hL ..) ?_ | assumption | exact KX.rf | refine KX.i rfl ?_ | refine KX.j rfl ?_ | refine KX.a rfl ?_ | refine KX.b rfl ?_ | refine KX.c rfl ?_)
set_option maxRecDepth 20000 in
theorem kx_b_M_readStatement_50_1 (L : Nat → G2 → Option (G2)) (g : G2) (hL : ∀ x0 g, XV  g (L x0 g)) : XV  g (b_M_readStatement_50_1 L g) := by
  unfold b_M_readStatement_50_1
  repeat' (with_reducible first | refine XV.ite ?_ ?_ | refine XV.bd ?_ (fun _ _ _ => ?_) | refine XV.bind ?_ (fun _ _ => ?_) | exact XV.no | refine XV.so ?_ | refine XV.via (hL ..) ?_ | assumption | exact KX.rf | refine KX.i rfl ?_ | refine KX.j rfl ?_ | refine KX.a rfl ?_ | refine KX.b rfl ?_ | refine KX.c rfl ?_)
set_option maxRecDepth 20000 in
theorem kx_l_M_readStatement_50 : ∀ (n : Nat) (x0 : Nat) (g : G2), XV  g (l_M_readStatement_50 n x0 g) := by
  intro n
  induction n with
  | zero => intros; exact XV.no
  | succ n ih =>
    intro x0 g
    unfold l_M_readStatement_50
    try dsimp only
    first | (split <;> (first  | exact kx_b_M_readStatement_50_0 _ _ ih | exact kx_b_M_readStatement_50_1 _ _ ih)) | (first  | exact kx_b_M_readStatement_50_0 _ _ ih | exact kx_b_M_readStatement_50_1 _ _ ih)
set_option maxRecDepth 20000 in
theorem kx_f_M_readStatement_50 (g : G2) : XV  g (f_M_readStatement_50 g) := by
  unfold f_M_readStatement_50
  repeat' (with_reducible first | refine XV.ite ?_ ?_ | refine XV.bd ?_ (fun _ _ _ => ?_) | refine XV.bind ?_ (fun _ _ => ?_) | exact XV.no | refine XV.so ?_ | refine XO.via (kx_f_M_closeScope_50 ..) ?_ | refine XV.via (kx_f_M_closeScope_50 ..) ?_ | refine XO.via (kx_f_M_fail_50 ..) ?_ | refine XV.via (kx_f_M_fail_50 ..) ?_ | refine XO.via (kx_f_M_readApart_50 ..) ?_ | refine XV.via (kx_f_M_readApart_50 ..) ?_ | refine XO.via (kx_f_M_readConstants_50 ..) ?_ | refine XV.via (kx_f_M_readConstants_50 ..) ?_ | refine XO.via (kx_f_M_readLabelled_50 ..) ?_ | refine XV.via (kx_f_M_readLabelled_50 ..) ?_ | refine XO.via (kx_f_M_readVariables_50 ..) ?_ | refine XV.via (kx_f_M_readVariables_50 ..) ?_ | refine XO.via (kx_f_M_whatIs_50 ..) ?_ | refine XV.via (kx_f_M_whatIs_50 ..) ?_ | refine XO.via (kx_l_M_readStatement_50 ..) ?_ | refine XV.via (kx_l_M_readStatement_50 ..) ?_ | assumption | exact KX.rf | refine KX.i rfl ?_ | refine KX.j rfl ?_ | refine KX.a rfl ?_ | refine KX.b rfl ?_ | refine KX.c rfl ?_)
set_option maxRecDepth 20000 in
theorem kx_b_M_read_50_0 (L : Nat → G2 → Option (Int × G2)) (g : G2) (hL : ∀ x0 g, XO  g (L x0 g)) : XO  g (b_M_read_50_0 L g) := by
  unfold b_M_read_50_0
  repeat' (with_reducible first | refine XO.ite ?_ ?_ | refine XO.bd ?_ (fun _ _ _ => ?_) | refine XO.bind ?_ (fun _ _ => ?_) | exact XO.no | refine XO.so ?_ | refine XO.via (kx_f_M_come_50 ..) ?_ | refine XV.via (kx_f_M_come_50 ..) ?_ | refine XO.via (kx_f_M_readStatement_50 ..) ?_ | refine XV.via (kx_f_M_readStatement_50 ..) ?_ | refine XO.via (hL ..) ?_ | assumption | exact KX.rf | refine KX.i rfl ?_ | refine KX.j rfl ?_ | refine KX.a rfl ?_ | refine KX.b rfl ?_ | refine KX.c rfl ?_)
set_option maxRecDepth 20000 in
theorem kx_b_M_read_50_1 (L : Nat → G2 → Option (Int × G2)) (g : G2) (hL : ∀ x0 g, XO  g (L x0 g)) : XO  g (b_M_read_50_1 L g) := by
  unfold b_M_read_50_1
  repeat' (with_reducible first | refine XO.ite ?_ ?_ | refine XO.bd ?_ (fun _ _ _ => ?_) | refine XO.bind ?_ (fun _ _ => ?_) | exact XO.no | refine XO.so ?_ | refine XO.via (kx_f_M_fail_50 ..) ?_ | refine XV.via (kx_f_M_fail_50 ..) ?_ | refine XO.via (hL ..) ?_ | assumption | exact KX.rf | refine KX.i rfl ?_ | refine KX.j rfl ?_ | refine KX.a rfl ?_ | refine KX.b rfl ?_ | refine KX.c rfl ?_)
set_option maxRecDepth 20000 in
theorem kx_b_M_read_50_2 (L : Nat → G2 → Option (Int × G2)) (g : G2) (hL : ∀ x0 g, XO  g (L x0 g)) : XO  g (b_M_read_50_2 L g) := by
  unfold b_M_read_50_2
  repeat' (with_reducible first | refine XO.ite ?_ ?_ | refine XO.bd ?_ (fun _ _ _ => ?_) | refine XO.bind ?_ (fun _ _ => ?_) | exact XO.no | refine XO.so ?_ | refine XO.via (hL ..) ?_ | assumption | exact KX.rf | refine KX.i rfl ?_ | refine KX.j rfl ?_ | refine KX.a rfl ?_ | refine KX.b rfl ?_ | refine KX.c rfl ?_)
set_option maxRecDepth 20000 in
theorem kx_l_M_read_50 : ∀ (n : Nat) (x0 : Nat) (g : G2), XO  g (l_M_read_50 n x0 g) := by
  intro n
  induction n with
  | zero => intros; exact XO.no
  | succ n ih =>
    intro x0 g
    unfold l_M_read_50
    try dsimp only
    first | (split <;> (first  | exact kx_b_M_read_50_0 _ _ ih | exact kx_b_M_read_50_1 _ _ ih | exact kx_b_M_read_50_2 _ _ ih)) | (first  | exact kx_b_M_read_50_0 _ _ ih | exact kx_b_M_read_50_1 _ _ ih | exact kx_b_M_read_50_2 _ _ ih)
set_option maxRecDepth 20000 in
theorem kx_f_M_read_50 (g : G2) : XO  g (f_M_read_50 g) := by
  unfold f_M_read_50
  repeat' (with_reducible first | refine XO.ite ?_ ?_ | refine XO.bd ?_ (fun _ _ _ => ?_) | refine XO.bind ?_ (fun _ _ => ?_) | exact XO.no | refine XO.so ?_ | refine XO.via (kx_f_M_findWords_50 ..) ?_ | refine XV.via (kx_f_M_findWords_50 ..) ?_ | refine XO.via (kx_l_M_read_50 ..) ?_ | refine XV.via (kx_l_M_read_50 ..) ?_ | assumption | exact KX.rf | refine KX.i rfl ?_ | refine KX.j rfl ?_ | refine KX.a rfl ?_ | refine KX.b rfl ?_ | refine KX.c rfl ?_)
