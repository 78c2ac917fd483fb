/-! ===== what each text leaves alone (laid by tools/keep.py) ===== -/
def KK (P : Nat → Prop) (g g' : G2) : Prop := ∀ r, P r → g'.1 r = g.1 r ∧ g'.2.1 r = g.2.1 r ∧ g'.2.2.1 r = g.2.2.1 r ∧ g'.2.2.2 r = g.2.2.2 r
def KO {α : Type} (P : Nat → Prop) (g : G2) (o : Option (α × G2)) : Prop := ∀ r g', o = some (r, g') → KK P g g'
def KV (P : Nat → Prop) (g : G2) (o : Option G2) : Prop := ∀ g', o = some g' → KK P g g'
theorem KK.rf {P : Nat → Prop} {g : G2} : KK P g g := fun _ _ => ⟨rfl, rfl, rfl, rfl⟩
theorem KK.tr {P : Nat → Prop} {a b c : G2} (h : KK P a b) (k : KK P b c) : KK P a c := fun r hr => ⟨(k r hr).1.trans (h r hr).1, (k r hr).2.1.trans (h r hr).2.1, (k r hr).2.2.1.trans (h r hr).2.2.1, (k r hr).2.2.2.trans (h r hr).2.2.2⟩
theorem am_updN {α : Type} {f : Nat → α} {k j : Nat} {x : α} (h : j ≠ k) : am_upd f k x j = f j := by unfold am_upd; rw [if_neg h]
theorem KK.i {P : Nat → Prop} {g g' : G2} {r k : Nat} {v : Int} (h : ¬ P r) (a : KK P g g') : KK P g (gI g' r k v) := fun q hq => ⟨(am_updN (fun e : q = r => h (e ▸ hq))).trans (a q hq).1, (a q hq).2⟩
theorem KK.j {P : Nat → Prop} {g g' : G2} {r k : Nat} {v : Int64} (h : ¬ P r) (a : KK P g g') : KK P g (gJ g' r k v) := fun q hq => ⟨(a q hq).1, (am_updN (fun e : q = r => h (e ▸ hq))).trans (a q hq).2.1, (a q hq).2.2⟩
theorem KK.a {P : Nat → Prop} {g g' : G2} {r : Nat} {k v : Int} (h : ¬ P r) (a : KK P g g') : KK P g (gA g' r k v) := fun q hq => ⟨(a q hq).1, (a q hq).2.1, (am_updN (fun e : q = r => h (e ▸ hq))).trans (a q hq).2.2.1, (a q hq).2.2.2⟩
theorem KK.b {P : Nat → Prop} {g g' : G2} {r : Nat} {k : Int} {v : Int64} (h : ¬ P r) (a : KK P g g') : KK P g (gB g' r k v) := fun q hq => ⟨(a q hq).1, (a q hq).2.1, (a q hq).2.2.1, (am_updN (fun e : q = r => h (e ▸ hq))).trans (a q hq).2.2.2⟩
theorem KK.c {P : Nat → Prop} {g g' : G2} {s r : Nat} {x y z : Int} (h : ¬ P r) (a : KK P g g') : KK P g (gC g' s r x y z) := fun q hq => ⟨(a q hq).1, (a q hq).2.1, (am_updN (fun e : q = r => h (e ▸ hq))).trans (a q hq).2.2.1, (a q hq).2.2.2⟩
theorem KO.no {α : Type} {P : Nat → Prop} {g : G2} : KO (α := α) P g none := fun _ _ h => by cases h
theorem KV.no {P : Nat → Prop} {g : G2} : KV P g none := fun _ h => by cases h
theorem KO.so {α : Type} {P : Nat → Prop} {g g' : G2} {r : α} (h : KK P g g') : KO P g (some (r, g')) := fun _ _ e => by cases e; exact h
theorem KV.so {P : Nat → Prop} {g g' : G2} (h : KK P g g') : KV P g (some g') := fun _ e => by cases e; exact h
theorem KO.ite {α : Type} {P : Nat → Prop} {g : G2} {c : Prop} [Decidable c] {x y : Option (α × G2)} (h : KO P g x) (k : KO P g y) : KO P g (if c then x else y) := by split; exact h; exact k
theorem KV.ite {P : Nat → Prop} {g : G2} {c : Prop} [Decidable c] {x y : Option G2} (h : KV P g x) (k : KV P g y) : KV P g (if c then x else y) := by split; exact h; exact k
theorem KO.via {α : Type} {P : Nat → Prop} {g g1 : G2} {x : Option (α × G2)} (h : KO P g1 x) (k : KK P g g1) : KO P g x := fun r g' e => k.tr (h r g' e)
theorem KV.via {P : Nat → Prop} {g g1 : G2} {x : Option G2} (h : KV P g1 x) (k : KK P g g1) : KV P g x := fun g' e => k.tr (h g' e)
theorem KO.bd {α β : Type} {P : Nat → Prop} {g : G2} {x : Option (β × G2)} {f : β → G2 → Option (α × G2)} (h : KO P g x) (k : ∀ r g2, KK P g g2 → KO P g (f r g2)) : KO P g (bd x f) := fun r g' e => by
  obtain ⟨a, g2, e1, e2⟩ := bd_inv e
  exact k a g2 (h a g2 e1) r g' e2
theorem KV.bd {β : Type} {P : Nat → Prop} {g : G2} {x : Option (β × G2)} {f : β → G2 → Option G2} (h : KO P g x) (k : ∀ r g2, KK P g g2 → KV P g (f r g2)) : KV P g (bd x f) := fun g' e => by
  obtain ⟨a, g2, e1, e2⟩ := bd_inv e
  exact k a g2 (h a g2 e1) g' e2
theorem KO.bind {α : Type} {P : Nat → Prop} {g : G2} {x : Option G2} {f : G2 → Option (α × G2)} (h : KV P g x) (k : ∀ g2, KK P g g2 → KO P g (f g2)) : KO P g (x.bind f) := fun r g' e => by
  obtain ⟨g2, e1, e2⟩ := Option.bind_eq_some_iff.mp e
  exact k g2 (h g2 e1) r g' e2
theorem KV.bind {P : Nat → Prop} {g : G2} {x : Option G2} {f : G2 → Option G2} (h : KV P g x) (k : ∀ g2, KK P g g2 → KV P g (f g2)) : KV P g (x.bind f) := fun g' e => by
  obtain ⟨g2, e1, e2⟩ := Option.bind_eq_some_iff.mp e
  exact k g2 (h g2 e1) g' e2
def cC (r : Nat) : Prop := 49 ≤ r
def cM (r : Nat) : Prop := r < 49
theorem nCd {r : Nat} (h : decide (r < 49) = true) : ¬ cC r := fun k => Nat.lt_irrefl _ (Nat.lt_of_lt_of_le (of_decide_eq_true h) k)
theorem nMd {r : Nat} (h : decide (49 ≤ r) = true) : ¬ cM r := fun k => Nat.lt_irrefl _ (Nat.lt_of_lt_of_le k (of_decide_eq_true h))
set_option maxRecDepth 20000 in
theorem k_b_Text_append_2_0 (L : Nat → Int64 → Int → Int → G2 → Option (Int × G2)) (l1 : Int64) (i3 : Int) (i4 : Int) (g : G2) (hL : ∀ x0 x1 x2 x3 g, KO cC g (L x0 x1 x2 x3 g)) : KO cC g (b_Text_append_2_0 L l1 i3 i4 g) := by
  unfold b_Text_append_2_0
  repeat' (with_reducible first | refine KO.ite ?_ ?_ | refine KO.bd ?_ (fun _ _ _ => ?_) | refine KO.bind ?_ (fun _ _ => ?_) | exact KO.no | refine KO.so ?_ | refine KO.via (hL ..) ?_ | assumption | exact KK.rf | refine KK.i (nCd rfl) ?_ | refine KK.j (nCd rfl) ?_ | refine KK.a (nCd rfl) ?_ | refine KK.b (nCd rfl) ?_ | refine KK.c (nCd rfl) ?_)
set_option maxRecDepth 20000 in
theorem k_b_Text_append_2_1 (L : Nat → Int64 → Int → Int → G2 → Option (Int × G2)) (l1 : Int64) (i3 : Int) (i4 : Int) (g : G2) (hL : ∀ x0 x1 x2 x3 g, KO cC g (L x0 x1 x2 x3 g)) : KO cC g (b_Text_append_2_1 L l1 i3 i4 g) := by
  unfold b_Text_append_2_1
  repeat' (with_reducible first | refine KO.ite ?_ ?_ | refine KO.bd ?_ (fun _ _ _ => ?_) | refine KO.bind ?_ (fun _ _ => ?_) | exact KO.no | refine KO.so ?_ | refine KO.via (hL ..) ?_ | assumption | exact KK.rf | refine KK.i (nCd rfl) ?_ | refine KK.j (nCd rfl) ?_ | refine KK.a (nCd rfl) ?_ | refine KK.b (nCd rfl) ?_ | refine KK.c (nCd rfl) ?_)
set_option maxRecDepth 20000 in
theorem k_l_Text_append_2 : ∀ (n : Nat) (x0 : Nat) (x1 : Int64) (x2 : Int) (x3 : Int) (g : G2), KO cC g (l_Text_append_2 n x0 x1 x2 x3 g) := by
  intro n
  induction n with
  | zero => intros; exact KO.no
  | succ n ih =>
    intro x0 x1 x2 x3 g
    unfold l_Text_append_2
    try dsimp only
    first | (split <;> (first  | exact k_b_Text_append_2_0 _ _ _ _ _ ih | exact k_b_Text_append_2_1 _ _ _ _ _ ih)) | (first  | exact k_b_Text_append_2_0 _ _ _ _ _ ih | exact k_b_Text_append_2_1 _ _ _ _ _ ih)
set_option maxRecDepth 20000 in
theorem k_f_Text_append_2 (a1 : Int64) (a3 : Int) (g : G2) : KO cC g (f_Text_append_2 a1 a3 g) := by
  unfold f_Text_append_2
  repeat' (with_reducible first | refine KO.ite ?_ ?_ | refine KO.bd ?_ (fun _ _ _ => ?_) | refine KO.bind ?_ (fun _ _ => ?_) | exact KO.no | refine KO.so ?_ | refine KO.via (k_l_Text_append_2 ..) ?_ | refine KV.via (k_l_Text_append_2 ..) ?_ | assumption | exact KK.rf | refine KK.i (nCd rfl) ?_ | refine KK.j (nCd rfl) ?_ | refine KK.a (nCd rfl) ?_ | refine KK.b (nCd rfl) ?_ | refine KK.c (nCd rfl) ?_)
set_option maxRecDepth 20000 in
theorem k_f_L_feed_1 (a1 : Int64) (a3 : Int) (g : G2) : KO cC g (f_L_feed_1 a1 a3 g) := by
  unfold f_L_feed_1
  repeat' (with_reducible first | refine KO.ite ?_ ?_ | refine KO.bd ?_ (fun _ _ _ => ?_) | refine KO.bind ?_ (fun _ _ => ?_) | exact KO.no | refine KO.so ?_ | refine KO.via (k_f_Text_append_2 ..) ?_ | refine KV.via (k_f_Text_append_2 ..) ?_ | assumption | exact KK.rf | refine KK.i (nCd rfl) ?_ | refine KK.j (nCd rfl) ?_ | refine KK.a (nCd rfl) ?_ | refine KK.b (nCd rfl) ?_ | refine KK.c (nCd rfl) ?_)
set_option maxRecDepth 20000 in
theorem k_f_Text_empty_2 (g : G2) : KO cC g (f_Text_empty_2 g) := by
  unfold f_Text_empty_2
  repeat' (with_reducible first | refine KO.ite ?_ ?_ | refine KO.bd ?_ (fun _ _ _ => ?_) | refine KO.bind ?_ (fun _ _ => ?_) | exact KO.no | refine KO.so ?_ | assumption | exact KK.rf | refine KK.i (nCd rfl) ?_ | refine KK.j (nCd rfl) ?_ | refine KK.a (nCd rfl) ?_ | refine KK.b (nCd rfl) ?_ | refine KK.c (nCd rfl) ?_)
set_option maxRecDepth 20000 in
theorem k_f_L_clear_1 (g : G2) : KO cC g (f_L_clear_1 g) := by
  unfold f_L_clear_1
  repeat' (with_reducible first | refine KO.ite ?_ ?_ | refine KO.bd ?_ (fun _ _ _ => ?_) | refine KO.bind ?_ (fun _ _ => ?_) | exact KO.no | refine KO.so ?_ | refine KO.via (k_f_Text_empty_2 ..) ?_ | refine KV.via (k_f_Text_empty_2 ..) ?_ | assumption | exact KK.rf | refine KK.i (nCd rfl) ?_ | refine KK.j (nCd rfl) ?_ | refine KK.a (nCd rfl) ?_ | refine KK.b (nCd rfl) ?_ | refine KK.c (nCd rfl) ?_)
set_option maxRecDepth 20000 in
theorem k_f_Text_rewind_2 (g : G2) : KV cC g (f_Text_rewind_2 g) := by
  unfold f_Text_rewind_2
  repeat' (with_reducible first | refine KV.ite ?_ ?_ | refine KV.bd ?_ (fun _ _ _ => ?_) | refine KV.bind ?_ (fun _ _ => ?_) | exact KV.no | refine KV.so ?_ | assumption | exact KK.rf | refine KK.i (nCd rfl) ?_ | refine KK.j (nCd rfl) ?_ | refine KK.a (nCd rfl) ?_ | refine KK.b (nCd rfl) ?_ | refine KK.c (nCd rfl) ?_)
set_option maxRecDepth 20000 in
theorem k_f_Names_begin_4 (g : G2) : KV cC g (f_Names_begin_4 g) := by
  unfold f_Names_begin_4
  repeat' (with_reducible first | refine KV.ite ?_ ?_ | refine KV.bd ?_ (fun _ _ _ => ?_) | refine KV.bind ?_ (fun _ _ => ?_) | exact KV.no | refine KV.so ?_ | assumption | exact KK.rf | refine KK.i (nCd rfl) ?_ | refine KK.j (nCd rfl) ?_ | refine KK.a (nCd rfl) ?_ | refine KK.b (nCd rfl) ?_ | refine KK.c (nCd rfl) ?_)
set_option maxRecDepth 20000 in
theorem k_b_J_fill_29_0 (L : Nat → Int64 → Int → Int → G2 → Option (G2)) (l1 : Int64) (i3 : Int) (i4 : Int) (g : G2) (hL : ∀ x0 x1 x2 x3 g, KV cC g (L x0 x1 x2 x3 g)) : KV cC g (b_J_fill_29_0 L l1 i3 i4 g) := by
  unfold b_J_fill_29_0
  repeat' (with_reducible first | refine KV.ite ?_ ?_ | refine KV.bd ?_ (fun _ _ _ => ?_) | refine KV.bind ?_ (fun _ _ => ?_) | exact KV.no | refine KV.so ?_ | refine KV.via (hL ..) ?_ | assumption | exact KK.rf | refine KK.i (nCd rfl) ?_ | refine KK.j (nCd rfl) ?_ | refine KK.a (nCd rfl) ?_ | refine KK.b (nCd rfl) ?_ | refine KK.c (nCd rfl) ?_)
set_option maxRecDepth 20000 in
theorem k_l_J_fill_29 : ∀ (n : Nat) (x0 : Nat) (x1 : Int64) (x2 : Int) (x3 : Int) (g : G2), KV cC g (l_J_fill_29 n x0 x1 x2 x3 g) := by
  intro n
  induction n with
  | zero => intros; exact KV.no
  | succ n ih =>
    intro x0 x1 x2 x3 g
    unfold l_J_fill_29
    try dsimp only
    first | (split <;> (first  | exact k_b_J_fill_29_0 _ _ _ _ _ ih)) | (first  | exact k_b_J_fill_29_0 _ _ _ _ _ ih)
set_option maxRecDepth 20000 in
theorem k_f_J_fill_29 (a1 : Int64) (g : G2) : KV cC g (f_J_fill_29 a1 g) := by
  unfold f_J_fill_29
  repeat' (with_reducible first | refine KV.ite ?_ ?_ | refine KV.bd ?_ (fun _ _ _ => ?_) | refine KV.bind ?_ (fun _ _ => ?_) | exact KV.no | refine KV.so ?_ | refine KO.via (k_l_J_fill_29 ..) ?_ | refine KV.via (k_l_J_fill_29 ..) ?_ | assumption | exact KK.rf | refine KK.i (nCd rfl) ?_ | refine KK.j (nCd rfl) ?_ | refine KK.a (nCd rfl) ?_ | refine KK.b (nCd rfl) ?_ | refine KK.c (nCd rfl) ?_)
set_option maxRecDepth 20000 in
theorem k_f_Context_firstOf (a0 : Int) (g : G2) : KO cC g (f_Context_firstOf a0 g) := by
  unfold f_Context_firstOf
  repeat' (with_reducible first | refine KO.ite ?_ ?_ | refine KO.bd ?_ (fun _ _ _ => ?_) | refine KO.bind ?_ (fun _ _ => ?_) | exact KO.no | refine KO.so ?_ | assumption | exact KK.rf | refine KK.i (nCd rfl) ?_ | refine KK.j (nCd rfl) ?_ | refine KK.a (nCd rfl) ?_ | refine KK.b (nCd rfl) ?_ | refine KK.c (nCd rfl) ?_)
set_option maxRecDepth 20000 in
theorem k_f_Context_secondOf (a0 : Int) (g : G2) : KO cC g (f_Context_secondOf a0 g) := by
  unfold f_Context_secondOf
  repeat' (with_reducible first | refine KO.ite ?_ ?_ | refine KO.bd ?_ (fun _ _ _ => ?_) | refine KO.bind ?_ (fun _ _ => ?_) | exact KO.no | refine KO.so ?_ | assumption | exact KK.rf | refine KK.i (nCd rfl) ?_ | refine KK.j (nCd rfl) ?_ | refine KK.a (nCd rfl) ?_ | refine KK.b (nCd rfl) ?_ | refine KK.c (nCd rfl) ?_)
set_option maxRecDepth 20000 in
theorem k_f_Context_pairOf (a0 : Int) (a1 : Int) (g : G2) : KO cC g (f_Context_pairOf a0 a1 g) := by
  unfold f_Context_pairOf
  repeat' (with_reducible first | refine KO.ite ?_ ?_ | refine KO.bd ?_ (fun _ _ _ => ?_) | refine KO.bind ?_ (fun _ _ => ?_) | exact KO.no | refine KO.so ?_ | assumption | exact KK.rf | refine KK.i (nCd rfl) ?_ | refine KK.j (nCd rfl) ?_ | refine KK.a (nCd rfl) ?_ | refine KK.b (nCd rfl) ?_ | refine KK.c (nCd rfl) ?_)
set_option maxRecDepth 20000 in
theorem k_f_Context_addPair_27 (a1 : Int) (a2 : Int) (g : G2) : KV cC g (f_Context_addPair_27 a1 a2 g) := by
  unfold f_Context_addPair_27
  repeat' (with_reducible first | refine KV.ite ?_ ?_ | refine KV.bd ?_ (fun _ _ _ => ?_) | refine KV.bind ?_ (fun _ _ => ?_) | exact KV.no | refine KV.so ?_ | refine KO.via (k_f_Context_pairOf ..) ?_ | refine KV.via (k_f_Context_pairOf ..) ?_ | assumption | exact KK.rf | refine KK.i (nCd rfl) ?_ | refine KK.j (nCd rfl) ?_ | refine KK.a (nCd rfl) ?_ | refine KK.b (nCd rfl) ?_ | refine KK.c (nCd rfl) ?_)
set_option maxRecDepth 20000 in
theorem k_b_Context_forgetPairs_27_0 (L : Nat → Int → Int → G2 → Option (G2)) (i1 : Int) (i2 : Int) (g : G2) (hL : ∀ x0 x1 x2 g, KV cC g (L x0 x1 x2 g)) : KV cC g (b_Context_forgetPairs_27_0 L i1 i2 g) := by
  unfold b_Context_forgetPairs_27_0
  repeat' (with_reducible first | refine KV.ite ?_ ?_ | refine KV.bd ?_ (fun _ _ _ => ?_) | refine KV.bind ?_ (fun _ _ => ?_) | exact KV.no | refine KV.so ?_ | refine KO.via (k_f_Context_addPair_27 ..) ?_ | refine KV.via (k_f_Context_addPair_27 ..) ?_ | refine KO.via (k_f_Context_firstOf ..) ?_ | refine KV.via (k_f_Context_firstOf ..) ?_ | refine KO.via (k_f_Context_secondOf ..) ?_ | refine KV.via (k_f_Context_secondOf ..) ?_ | refine KV.via (hL ..) ?_ | assumption | exact KK.rf | refine KK.i (nCd rfl) ?_ | refine KK.j (nCd rfl) ?_ | refine KK.a (nCd rfl) ?_ | refine KK.b (nCd rfl) ?_ | refine KK.c (nCd rfl) ?_)
set_option maxRecDepth 20000 in
theorem k_l_Context_forgetPairs_27 : ∀ (n : Nat) (x0 : Nat) (x1 : Int) (x2 : Int) (g : G2), KV cC g (l_Context_forgetPairs_27 n x0 x1 x2 g) := by
  intro n
  induction n with
  | zero => intros; exact KV.no
  | succ n ih =>
    intro x0 x1 x2 g
    unfold l_Context_forgetPairs_27
    try dsimp only
    first | (split <;> (first  | exact k_b_Context_forgetPairs_27_0 _ _ _ _ ih)) | (first  | exact k_b_Context_forgetPairs_27_0 _ _ _ _ ih)
set_option maxRecDepth 20000 in
theorem k_f_Context_forgetPairs_27 (a1 : Int) (g : G2) : KV cC g (f_Context_forgetPairs_27 a1 g) := by
  unfold f_Context_forgetPairs_27
  repeat' (with_reducible first | refine KV.ite ?_ ?_ | refine KV.bd ?_ (fun _ _ _ => ?_) | refine KV.bind ?_ (fun _ _ => ?_) | exact KV.no | refine KV.so ?_ | refine KO.via (k_f_J_fill_29 ..) ?_ | refine KV.via (k_f_J_fill_29 ..) ?_ | refine KO.via (k_l_Context_forgetPairs_27 ..) ?_ | refine KV.via (k_l_Context_forgetPairs_27 ..) ?_ | assumption | exact KK.rf | refine KK.i (nCd rfl) ?_ | refine KK.j (nCd rfl) ?_ | refine KK.a (nCd rfl) ?_ | refine KK.b (nCd rfl) ?_ | refine KK.c (nCd rfl) ?_)
set_option maxRecDepth 20000 in
theorem k_f_Context_begin_27 (g : G2) : KV cC g (f_Context_begin_27 g) := by
  unfold f_Context_begin_27
  repeat' (with_reducible first | refine KV.ite ?_ ?_ | refine KV.bd ?_ (fun _ _ _ => ?_) | refine KV.bind ?_ (fun _ _ => ?_) | exact KV.no | refine KV.so ?_ | refine KO.via (k_f_Context_forgetPairs_27 ..) ?_ | refine KV.via (k_f_Context_forgetPairs_27 ..) ?_ | assumption | exact KK.rf | refine KK.i (nCd rfl) ?_ | refine KK.j (nCd rfl) ?_ | refine KK.a (nCd rfl) ?_ | refine KK.b (nCd rfl) ?_ | refine KK.c (nCd rfl) ?_)
set_option maxRecDepth 20000 in
theorem k_f_Reader_begin_26 (g : G2) : KV cC g (f_Reader_begin_26 g) := by
  unfold f_Reader_begin_26
  repeat' (with_reducible first | refine KV.ite ?_ ?_ | refine KV.bd ?_ (fun _ _ _ => ?_) | refine KV.bind ?_ (fun _ _ => ?_) | exact KV.no | refine KV.so ?_ | refine KO.via (k_f_Context_begin_27 ..) ?_ | refine KV.via (k_f_Context_begin_27 ..) ?_ | refine KO.via (k_f_Names_begin_4 ..) ?_ | refine KV.via (k_f_Names_begin_4 ..) ?_ | assumption | exact KK.rf | refine KK.i (nCd rfl) ?_ | refine KK.j (nCd rfl) ?_ | refine KK.a (nCd rfl) ?_ | refine KK.b (nCd rfl) ?_ | refine KK.c (nCd rfl) ?_)
set_option maxRecDepth 20000 in
theorem k_b_Text_scanWord_2_0 (L : Nat → G2 → Option (Int × G2)) (g : G2) (hL : ∀ x0 g, KO cC g (L x0 g)) : KO cC g (b_Text_scanWord_2_0 L g) := by
  unfold b_Text_scanWord_2_0
  repeat' (with_reducible first | refine KO.ite ?_ ?_ | refine KO.bd ?_ (fun _ _ _ => ?_) | refine KO.bind ?_ (fun _ _ => ?_) | exact KO.no | refine KO.so ?_ | refine KO.via (hL ..) ?_ | assumption | exact KK.rf | refine KK.i (nCd rfl) ?_ | refine KK.j (nCd rfl) ?_ | refine KK.a (nCd rfl) ?_ | refine KK.b (nCd rfl) ?_ | refine KK.c (nCd rfl) ?_)
set_option maxRecDepth 20000 in
theorem k_b_Text_scanWord_2_1 (L : Nat → G2 → Option (Int × G2)) (g : G2) (hL : ∀ x0 g, KO cC g (L x0 g)) : KO cC g (b_Text_scanWord_2_1 L g) := by
  unfold b_Text_scanWord_2_1
  repeat' (with_reducible first | refine KO.ite ?_ ?_ | refine KO.bd ?_ (fun _ _ _ => ?_) | refine KO.bind ?_ (fun _ _ => ?_) | exact KO.no | refine KO.so ?_ | refine KO.via (hL ..) ?_ | assumption | exact KK.rf | refine KK.i (nCd rfl) ?_ | refine KK.j (nCd rfl) ?_ | refine KK.a (nCd rfl) ?_ | refine KK.b (nCd rfl) ?_ | refine KK.c (nCd rfl) ?_)
set_option maxRecDepth 20000 in
theorem k_b_Text_scanWord_2_2 (L : Nat → G2 → Option (Int × G2)) (g : G2) (hL : ∀ x0 g, KO cC g (L x0 g)) : KO cC g (b_Text_scanWord_2_2 L g) := by
  unfold b_Text_scanWord_2_2
  repeat' (with_reducible first | refine KO.ite ?_ ?_ | refine KO.bd ?_ (fun _ _ _ => ?_) | refine KO.bind ?_ (fun _ _ => ?_) | exact KO.no | refine KO.so ?_ | refine KO.via (hL ..) ?_ | assumption | exact KK.rf | refine KK.i (nCd rfl) ?_ | refine KK.j (nCd rfl) ?_ | refine KK.a (nCd rfl) ?_ | refine KK.b (nCd rfl) ?_ | refine KK.c (nCd rfl) ?_)
set_option maxRecDepth 20000 in
theorem k_b_Text_scanWord_2_3 (L : Nat → G2 → Option (Int × G2)) (g : G2) (hL : ∀ x0 g, KO cC g (L x0 g)) : KO cC g (b_Text_scanWord_2_3 L g) := by
  unfold b_Text_scanWord_2_3
  repeat' (with_reducible first | refine KO.ite ?_ ?_ | refine KO.bd ?_ (fun _ _ _ => ?_) | refine KO.bind ?_ (fun _ _ => ?_) | exact KO.no | refine KO.so ?_ | refine KO.via (hL ..) ?_ | assumption | exact KK.rf | refine KK.i (nCd rfl) ?_ | refine KK.j (nCd rfl) ?_ | refine KK.a (nCd rfl) ?_ | refine KK.b (nCd rfl) ?_ | refine KK.c (nCd rfl) ?_)
set_option maxRecDepth 20000 in
theorem k_l_Text_scanWord_2 : ∀ (n : Nat) (x0 : Nat) (g : G2), KO cC g (l_Text_scanWord_2 n x0 g) := by
  intro n
  induction n with
  | zero => intros; exact KO.no
  | succ n ih =>
    intro x0 g
    unfold l_Text_scanWord_2
    try dsimp only
    first | (split <;> (first  | exact k_b_Text_scanWord_2_0 _ _ ih | exact k_b_Text_scanWord_2_1 _ _ ih | exact k_b_Text_scanWord_2_2 _ _ ih | exact k_b_Text_scanWord_2_3 _ _ ih)) | (first  | exact k_b_Text_scanWord_2_0 _ _ ih | exact k_b_Text_scanWord_2_1 _ _ ih | exact k_b_Text_scanWord_2_2 _ _ ih | exact k_b_Text_scanWord_2_3 _ _ ih)
set_option maxRecDepth 20000 in
theorem k_f_Text_scanWord_2 (g : G2) : KO cC g (f_Text_scanWord_2 g) := by
  unfold f_Text_scanWord_2
  repeat' (with_reducible first | refine KO.ite ?_ ?_ | refine KO.bd ?_ (fun _ _ _ => ?_) | refine KO.bind ?_ (fun _ _ => ?_) | exact KO.no | refine KO.so ?_ | refine KO.via (k_l_Text_scanWord_2 ..) ?_ | refine KV.via (k_l_Text_scanWord_2 ..) ?_ | assumption | exact KK.rf | refine KK.i (nCd rfl) ?_ | refine KK.j (nCd rfl) ?_ | refine KK.a (nCd rfl) ?_ | refine KK.b (nCd rfl) ?_ | refine KK.c (nCd rfl) ?_)
set_option maxRecDepth 20000 in
theorem k_f_Text_keyword_2 (g : G2) : KO cC g (f_Text_keyword_2 g) := by
  unfold f_Text_keyword_2
  repeat' (with_reducible first | refine KO.ite ?_ ?_ | refine KO.bd ?_ (fun _ _ _ => ?_) | refine KO.bind ?_ (fun _ _ => ?_) | exact KO.no | refine KO.so ?_ | assumption | exact KK.rf | refine KK.i (nCd rfl) ?_ | refine KK.j (nCd rfl) ?_ | refine KK.a (nCd rfl) ?_ | refine KK.b (nCd rfl) ?_ | refine KK.c (nCd rfl) ?_)
set_option maxRecDepth 20000 in
theorem k_b_Text_advance_2_0 (L : Nat → Int → G2 → Option (Int × G2)) (i1 : Int) (g : G2) (hL : ∀ x0 x1 g, KO cC g (L x0 x1 g)) : KO cC g (b_Text_advance_2_0 L i1 g) := by
  unfold b_Text_advance_2_0
  repeat' (with_reducible first | refine KO.ite ?_ ?_ | refine KO.bd ?_ (fun _ _ _ => ?_) | refine KO.bind ?_ (fun _ _ => ?_) | exact KO.no | refine KO.so ?_ | refine KO.via (k_f_Text_keyword_2 ..) ?_ | refine KV.via (k_f_Text_keyword_2 ..) ?_ | refine KO.via (k_f_Text_scanWord_2 ..) ?_ | refine KV.via (k_f_Text_scanWord_2 ..) ?_ | refine KO.via (hL ..) ?_ | assumption | exact KK.rf | refine KK.i (nCd rfl) ?_ | refine KK.j (nCd rfl) ?_ | refine KK.a (nCd rfl) ?_ | refine KK.b (nCd rfl) ?_ | refine KK.c (nCd rfl) ?_)
set_option maxRecDepth 20000 in
theorem k_l_Text_advance_2 : ∀ (n : Nat) (x0 : Nat) (x1 : Int) (g : G2), KO cC g (l_Text_advance_2 n x0 x1 g) := by
  intro n
  induction n with
  | zero => intros; exact KO.no
  | succ n ih =>
    intro x0 x1 g
    unfold l_Text_advance_2
    try dsimp only
    first | (split <;> (first  | exact k_b_Text_advance_2_0 _ _ _ ih)) | (first  | exact k_b_Text_advance_2_0 _ _ _ ih)
set_option maxRecDepth 20000 in
theorem k_f_Text_advance_2 (g : G2) : KO cC g (f_Text_advance_2 g) := by
  unfold f_Text_advance_2
  repeat' (with_reducible first | refine KO.ite ?_ ?_ | refine KO.bd ?_ (fun _ _ _ => ?_) | refine KO.bind ?_ (fun _ _ => ?_) | exact KO.no | refine KO.so ?_ | refine KO.via (k_l_Text_advance_2 ..) ?_ | refine KV.via (k_l_Text_advance_2 ..) ?_ | assumption | exact KK.rf | refine KK.i (nCd rfl) ?_ | refine KK.j (nCd rfl) ?_ | refine KK.a (nCd rfl) ?_ | refine KK.b (nCd rfl) ?_ | refine KK.c (nCd rfl) ?_)
set_option maxRecDepth 20000 in
theorem k_f_Reader_isInside_26 (g : G2) : KO cC g (f_Reader_isInside_26 g) := by
  unfold f_Reader_isInside_26
  repeat' (with_reducible first | refine KO.ite ?_ ?_ | refine KO.bd ?_ (fun _ _ _ => ?_) | refine KO.bind ?_ (fun _ _ => ?_) | exact KO.no | refine KO.so ?_ | assumption | exact KK.rf | refine KK.i (nCd rfl) ?_ | refine KK.j (nCd rfl) ?_ | refine KK.a (nCd rfl) ?_ | refine KK.b (nCd rfl) ?_ | refine KK.c (nCd rfl) ?_)
set_option maxRecDepth 20000 in
theorem k_f_Text_isTooLong_2 (g : G2) : KO cC g (f_Text_isTooLong_2 g) := by
  unfold f_Text_isTooLong_2
  repeat' (with_reducible first | refine KO.ite ?_ ?_ | refine KO.bd ?_ (fun _ _ _ => ?_) | refine KO.bind ?_ (fun _ _ => ?_) | exact KO.no | refine KO.so ?_ | assumption | exact KK.rf | refine KK.i (nCd rfl) ?_ | refine KK.j (nCd rfl) ?_ | refine KK.a (nCd rfl) ?_ | refine KK.b (nCd rfl) ?_ | refine KK.c (nCd rfl) ?_)
set_option maxRecDepth 20000 in
theorem k_b_Names_find_4_0 (L : Nat → Int64 → Int → G2 → Option (Int × G2)) (l1 : Int64) (i3 : Int) (g : G2) (hL : ∀ x0 x1 x2 g, KO cC g (L x0 x1 x2 g)) : KO cC g (b_Names_find_4_0 L l1 i3 g) := by
  unfold b_Names_find_4_0
  repeat' (with_reducible first | refine KO.ite ?_ ?_ | refine KO.bd ?_ (fun _ _ _ => ?_) | refine KO.bind ?_ (fun _ _ => ?_) | exact KO.no | refine KO.so ?_ | refine KO.via (hL ..) ?_ | assumption | exact KK.rf | refine KK.i (nCd rfl) ?_ | refine KK.j (nCd rfl) ?_ | refine KK.a (nCd rfl) ?_ | refine KK.b (nCd rfl) ?_ | refine KK.c (nCd rfl) ?_)
set_option maxRecDepth 20000 in
theorem k_l_Names_find_4 : ∀ (n : Nat) (x0 : Nat) (x1 : Int64) (x2 : Int) (g : G2), KO cC g (l_Names_find_4 n x0 x1 x2 g) := by
  intro n
  induction n with
  | zero => intros; exact KO.no
  | succ n ih =>
    intro x0 x1 x2 g
    unfold l_Names_find_4
    try dsimp only
    first | (split <;> (first  | exact k_b_Names_find_4_0 _ _ _ _ ih)) | (first  | exact k_b_Names_find_4_0 _ _ _ _ ih)
set_option maxRecDepth 20000 in
theorem k_f_Names_find_4 (a1 : Int64) (g : G2) : KO cC g (f_Names_find_4 a1 g) := by
  unfold f_Names_find_4
  repeat' (with_reducible first | refine KO.ite ?_ ?_ | refine KO.bd ?_ (fun _ _ _ => ?_) | refine KO.bind ?_ (fun _ _ => ?_) | exact KO.no | refine KO.so ?_ | refine KO.via (k_l_Names_find_4 ..) ?_ | refine KV.via (k_l_Names_find_4 ..) ?_ | assumption | exact KK.rf | refine KK.i (nCd rfl) ?_ | refine KK.j (nCd rfl) ?_ | refine KK.a (nCd rfl) ?_ | refine KK.b (nCd rfl) ?_ | refine KK.c (nCd rfl) ?_)
set_option maxRecDepth 20000 in
theorem k_f_Names_isFull_4 (g : G2) : KO cC g (f_Names_isFull_4 g) := by
  unfold f_Names_isFull_4
  repeat' (with_reducible first | refine KO.ite ?_ ?_ | refine KO.bd ?_ (fun _ _ _ => ?_) | refine KO.bind ?_ (fun _ _ => ?_) | exact KO.no | refine KO.so ?_ | assumption | exact KK.rf | refine KK.i (nCd rfl) ?_ | refine KK.j (nCd rfl) ?_ | refine KK.a (nCd rfl) ?_ | refine KK.b (nCd rfl) ?_ | refine KK.c (nCd rfl) ?_)
set_option maxRecDepth 20000 in
theorem k_f_Expressions_isFull_11 (g : G2) : KO cC g (f_Expressions_isFull_11 g) := by
  unfold f_Expressions_isFull_11
  repeat' (with_reducible first | refine KO.ite ?_ ?_ | refine KO.bd ?_ (fun _ _ _ => ?_) | refine KO.bind ?_ (fun _ _ => ?_) | exact KO.no | refine KO.so ?_ | assumption | exact KK.rf | refine KK.i (nCd rfl) ?_ | refine KK.j (nCd rfl) ?_ | refine KK.a (nCd rfl) ?_ | refine KK.b (nCd rfl) ?_ | refine KK.c (nCd rfl) ?_)
set_option maxRecDepth 20000 in
theorem k_f_Expressions_startRow_11 (g : G2) : KV cC g (f_Expressions_startRow_11 g) := by
  unfold f_Expressions_startRow_11
  repeat' (with_reducible first | refine KV.ite ?_ ?_ | refine KV.bd ?_ (fun _ _ _ => ?_) | refine KV.bind ?_ (fun _ _ => ?_) | exact KV.no | refine KV.so ?_ | assumption | exact KK.rf | refine KK.i (nCd rfl) ?_ | refine KK.j (nCd rfl) ?_ | refine KK.a (nCd rfl) ?_ | refine KK.b (nCd rfl) ?_ | refine KK.c (nCd rfl) ?_)
set_option maxRecDepth 20000 in
theorem k_f_Statements_start_8 (a1 : Int64) (g : G2) : KV cC g (f_Statements_start_8 a1 g) := by
  unfold f_Statements_start_8
  repeat' (with_reducible first | refine KV.ite ?_ ?_ | refine KV.bd ?_ (fun _ _ _ => ?_) | refine KV.bind ?_ (fun _ _ => ?_) | exact KV.no | refine KV.so ?_ | refine KO.via (k_f_Expressions_startRow_11 ..) ?_ | refine KV.via (k_f_Expressions_startRow_11 ..) ?_ | assumption | exact KK.rf | refine KK.i (nCd rfl) ?_ | refine KK.j (nCd rfl) ?_ | refine KK.a (nCd rfl) ?_ | refine KK.b (nCd rfl) ?_ | refine KK.c (nCd rfl) ?_)
set_option maxRecDepth 20000 in
theorem k_f_Reader_takeLabel_26 (a1 : Int64) (g : G2) : KO cC g (f_Reader_takeLabel_26 a1 g) := by
  unfold f_Reader_takeLabel_26
  repeat' (with_reducible first | refine KO.ite ?_ ?_ | refine KO.bd ?_ (fun _ _ _ => ?_) | refine KO.bind ?_ (fun _ _ => ?_) | exact KO.no | refine KO.so ?_ | refine KO.via (k_f_Expressions_isFull_11 ..) ?_ | refine KV.via (k_f_Expressions_isFull_11 ..) ?_ | refine KO.via (k_f_Names_find_4 ..) ?_ | refine KV.via (k_f_Names_find_4 ..) ?_ | refine KO.via (k_f_Names_isFull_4 ..) ?_ | refine KV.via (k_f_Names_isFull_4 ..) ?_ | refine KO.via (k_f_Statements_start_8 ..) ?_ | refine KV.via (k_f_Statements_start_8 ..) ?_ | assumption | exact KK.rf | refine KK.i (nCd rfl) ?_ | refine KK.j (nCd rfl) ?_ | refine KK.a (nCd rfl) ?_ | refine KK.b (nCd rfl) ?_ | refine KK.c (nCd rfl) ?_)
set_option maxRecDepth 20000 in
theorem k_f_Names_add_4 (a1 : Int64) (a3 : Int) (g : G2) : KO cC g (f_Names_add_4 a1 a3 g) := by
  unfold f_Names_add_4
  repeat' (with_reducible first | refine KO.ite ?_ ?_ | refine KO.bd ?_ (fun _ _ _ => ?_) | refine KO.bind ?_ (fun _ _ => ?_) | exact KO.no | refine KO.so ?_ | assumption | exact KK.rf | refine KK.i (nCd rfl) ?_ | refine KK.j (nCd rfl) ?_ | refine KK.a (nCd rfl) ?_ | refine KK.b (nCd rfl) ?_ | refine KK.c (nCd rfl) ?_)
set_option maxRecDepth 20000 in
theorem k_f_Reader_declareConstant_26 (a1 : Int64) (g : G2) : KO cC g (f_Reader_declareConstant_26 a1 g) := by
  unfold f_Reader_declareConstant_26
  repeat' (with_reducible first | refine KO.ite ?_ ?_ | refine KO.bd ?_ (fun _ _ _ => ?_) | refine KO.bind ?_ (fun _ _ => ?_) | exact KO.no | refine KO.so ?_ | refine KO.via (k_f_Names_add_4 ..) ?_ | refine KV.via (k_f_Names_add_4 ..) ?_ | refine KO.via (k_f_Names_find_4 ..) ?_ | refine KV.via (k_f_Names_find_4 ..) ?_ | refine KO.via (k_f_Names_isFull_4 ..) ?_ | refine KV.via (k_f_Names_isFull_4 ..) ?_ | assumption | exact KK.rf | refine KK.i (nCd rfl) ?_ | refine KK.j (nCd rfl) ?_ | refine KK.a (nCd rfl) ?_ | refine KK.b (nCd rfl) ?_ | refine KK.c (nCd rfl) ?_)
set_option maxRecDepth 20000 in
theorem k_f_Reader_isActive_26 (a1 : Int) (g : G2) : KO cC g (f_Reader_isActive_26 a1 g) := by
  unfold f_Reader_isActive_26
  repeat' (with_reducible first | refine KO.ite ?_ ?_ | refine KO.bd ?_ (fun _ _ _ => ?_) | refine KO.bind ?_ (fun _ _ => ?_) | exact KO.no | refine KO.so ?_ | assumption | exact KK.rf | refine KK.i (nCd rfl) ?_ | refine KK.j (nCd rfl) ?_ | refine KK.a (nCd rfl) ?_ | refine KK.b (nCd rfl) ?_ | refine KK.c (nCd rfl) ?_)
set_option maxRecDepth 20000 in
theorem k_f_Reader_declareVariable_26 (a1 : Int64) (g : G2) : KO cC g (f_Reader_declareVariable_26 a1 g) := by
  unfold f_Reader_declareVariable_26
  repeat' (with_reducible first | refine KO.ite ?_ ?_ | refine KO.bd ?_ (fun _ _ _ => ?_) | refine KO.bind ?_ (fun _ _ => ?_) | exact KO.no | refine KO.so ?_ | refine KO.via (k_f_Names_add_4 ..) ?_ | refine KV.via (k_f_Names_add_4 ..) ?_ | refine KO.via (k_f_Names_find_4 ..) ?_ | refine KV.via (k_f_Names_find_4 ..) ?_ | refine KO.via (k_f_Names_isFull_4 ..) ?_ | refine KV.via (k_f_Names_isFull_4 ..) ?_ | refine KO.via (k_f_Reader_isActive_26 ..) ?_ | refine KV.via (k_f_Reader_isActive_26 ..) ?_ | assumption | exact KK.rf | refine KK.i (nCd rfl) ?_ | refine KK.j (nCd rfl) ?_ | refine KK.a (nCd rfl) ?_ | refine KK.b (nCd rfl) ?_ | refine KK.c (nCd rfl) ?_)
set_option maxRecDepth 20000 in
theorem k_f_Reader_meaningOf_26 (a1 : Int) (g : G2) : KO cC g (f_Reader_meaningOf_26 a1 g) := by
  unfold f_Reader_meaningOf_26
  repeat' (with_reducible first | refine KO.ite ?_ ?_ | refine KO.bd ?_ (fun _ _ _ => ?_) | refine KO.bind ?_ (fun _ _ => ?_) | exact KO.no | refine KO.so ?_ | refine KO.via (k_f_Reader_isActive_26 ..) ?_ | refine KV.via (k_f_Reader_isActive_26 ..) ?_ | assumption | exact KK.rf | refine KK.i (nCd rfl) ?_ | refine KK.j (nCd rfl) ?_ | refine KK.a (nCd rfl) ?_ | refine KK.b (nCd rfl) ?_ | refine KK.c (nCd rfl) ?_)
set_option maxRecDepth 20000 in
theorem k_b_Reader_takeApart_26_0 (L : Nat → Int → Int → G2 → Option (Int × G2)) (i1 : Int) (i3 : Int) (g : G2) (hL : ∀ x0 x1 x2 g, KO cC g (L x0 x1 x2 g)) : KO cC g (b_Reader_takeApart_26_0 L i1 i3 g) := by
  unfold b_Reader_takeApart_26_0
  repeat' (with_reducible first | refine KO.ite ?_ ?_ | refine KO.bd ?_ (fun _ _ _ => ?_) | refine KO.bind ?_ (fun _ _ => ?_) | exact KO.no | refine KO.so ?_ | refine KO.via (k_f_Context_addPair_27 ..) ?_ | refine KV.via (k_f_Context_addPair_27 ..) ?_ | refine KO.via (hL ..) ?_ | assumption | exact KK.rf | refine KK.i (nCd rfl) ?_ | refine KK.j (nCd rfl) ?_ | refine KK.a (nCd rfl) ?_ | refine KK.b (nCd rfl) ?_ | refine KK.c (nCd rfl) ?_)
set_option maxRecDepth 20000 in
theorem k_l_Reader_takeApart_26 : ∀ (n : Nat) (x0 : Nat) (x1 : Int) (x2 : Int) (g : G2), KO cC g (l_Reader_takeApart_26 n x0 x1 x2 g) := by
  intro n
  induction n with
  | zero => intros; exact KO.no
  | succ n ih =>
    intro x0 x1 x2 g
    unfold l_Reader_takeApart_26
    try dsimp only
    first | (split <;> (first  | exact k_b_Reader_takeApart_26_0 _ _ _ _ ih)) | (first  | exact k_b_Reader_takeApart_26_0 _ _ _ _ ih)
set_option maxRecDepth 20000 in
theorem k_f_Reader_takeApart_26 (a1 : Int) (g : G2) : KO cC g (f_Reader_takeApart_26 a1 g) := by
  unfold f_Reader_takeApart_26
  repeat' (with_reducible first | refine KO.ite ?_ ?_ | refine KO.bd ?_ (fun _ _ _ => ?_) | refine KO.bind ?_ (fun _ _ => ?_) | exact KO.no | refine KO.so ?_ | refine KO.via (k_f_Reader_meaningOf_26 ..) ?_ | refine KV.via (k_f_Reader_meaningOf_26 ..) ?_ | refine KO.via (k_l_Reader_takeApart_26 ..) ?_ | refine KV.via (k_l_Reader_takeApart_26 ..) ?_ | assumption | exact KK.rf | refine KK.i (nCd rfl) ?_ | refine KK.j (nCd rfl) ?_ | refine KK.a (nCd rfl) ?_ | refine KK.b (nCd rfl) ?_ | refine KK.c (nCd rfl) ?_)
set_option maxRecDepth 20000 in
theorem k_f_Expressions_append_11 (a1 : Int) (a2 : Int) (g : G2) : KV cC g (f_Expressions_append_11 a1 a2 g) := by
  unfold f_Expressions_append_11
  repeat' (with_reducible first | refine KV.ite ?_ ?_ | refine KV.bd ?_ (fun _ _ _ => ?_) | refine KV.bind ?_ (fun _ _ => ?_) | exact KV.no | refine KV.so ?_ | assumption | exact KK.rf | refine KK.i (nCd rfl) ?_ | refine KK.j (nCd rfl) ?_ | refine KK.a (nCd rfl) ?_ | refine KK.b (nCd rfl) ?_ | refine KK.c (nCd rfl) ?_)
set_option maxRecDepth 20000 in
theorem k_f_Reader_takeType_26 (a1 : Int) (g : G2) : KO cC g (f_Reader_takeType_26 a1 g) := by
  unfold f_Reader_takeType_26
  repeat' (with_reducible first | refine KO.ite ?_ ?_ | refine KO.bd ?_ (fun _ _ _ => ?_) | refine KO.bind ?_ (fun _ _ => ?_) | exact KO.no | refine KO.so ?_ | refine KO.via (k_f_Expressions_append_11 ..) ?_ | refine KV.via (k_f_Expressions_append_11 ..) ?_ | refine KO.via (k_f_Reader_meaningOf_26 ..) ?_ | refine KV.via (k_f_Reader_meaningOf_26 ..) ?_ | assumption | exact KK.rf | refine KK.i (nCd rfl) ?_ | refine KK.j (nCd rfl) ?_ | refine KK.a (nCd rfl) ?_ | refine KK.b (nCd rfl) ?_ | refine KK.c (nCd rfl) ?_)
set_option maxRecDepth 20000 in
theorem k_f_Reader_isTyped_26 (a1 : Int) (g : G2) : KO cC g (f_Reader_isTyped_26 a1 g) := by
  unfold f_Reader_isTyped_26
  repeat' (with_reducible first | refine KO.ite ?_ ?_ | refine KO.bd ?_ (fun _ _ _ => ?_) | refine KO.bind ?_ (fun _ _ => ?_) | exact KO.no | refine KO.so ?_ | assumption | exact KK.rf | refine KK.i (nCd rfl) ?_ | refine KK.j (nCd rfl) ?_ | refine KK.a (nCd rfl) ?_ | refine KK.b (nCd rfl) ?_ | refine KK.c (nCd rfl) ?_)
set_option maxRecDepth 20000 in
theorem k_f_Reader_takeFloating_26 (a1 : Int) (g : G2) : KO cC g (f_Reader_takeFloating_26 a1 g) := by
  unfold f_Reader_takeFloating_26
  repeat' (with_reducible first | refine KO.ite ?_ ?_ | refine KO.bd ?_ (fun _ _ _ => ?_) | refine KO.bind ?_ (fun _ _ => ?_) | exact KO.no | refine KO.so ?_ | refine KO.via (k_f_Expressions_append_11 ..) ?_ | refine KV.via (k_f_Expressions_append_11 ..) ?_ | refine KO.via (k_f_Reader_isTyped_26 ..) ?_ | refine KV.via (k_f_Reader_isTyped_26 ..) ?_ | refine KO.via (k_f_Reader_meaningOf_26 ..) ?_ | refine KV.via (k_f_Reader_meaningOf_26 ..) ?_ | assumption | exact KK.rf | refine KK.i (nCd rfl) ?_ | refine KK.j (nCd rfl) ?_ | refine KK.a (nCd rfl) ?_ | refine KK.b (nCd rfl) ?_ | refine KK.c (nCd rfl) ?_)
set_option maxRecDepth 20000 in
theorem k_f_Expressions_rowHasRoom_11 (a1 : Int) (g : G2) : KO cC g (f_Expressions_rowHasRoom_11 a1 g) := by
  unfold f_Expressions_rowHasRoom_11
  repeat' (with_reducible first | refine KO.ite ?_ ?_ | refine KO.bd ?_ (fun _ _ _ => ?_) | refine KO.bind ?_ (fun _ _ => ?_) | exact KO.no | refine KO.so ?_ | assumption | exact KK.rf | refine KK.i (nCd rfl) ?_ | refine KK.j (nCd rfl) ?_ | refine KK.a (nCd rfl) ?_ | refine KK.b (nCd rfl) ?_ | refine KK.c (nCd rfl) ?_)
set_option maxRecDepth 20000 in
theorem k_f_Reader_takeSymbol_26 (a1 : Int) (g : G2) : KO cC g (f_Reader_takeSymbol_26 a1 g) := by
  unfold f_Reader_takeSymbol_26
  repeat' (with_reducible first | refine KO.ite ?_ ?_ | refine KO.bd ?_ (fun _ _ _ => ?_) | refine KO.bind ?_ (fun _ _ => ?_) | exact KO.no | refine KO.so ?_ | refine KO.via (k_f_Expressions_append_11 ..) ?_ | refine KV.via (k_f_Expressions_append_11 ..) ?_ | refine KO.via (k_f_Expressions_rowHasRoom_11 ..) ?_ | refine KV.via (k_f_Expressions_rowHasRoom_11 ..) ?_ | refine KO.via (k_f_Reader_isTyped_26 ..) ?_ | refine KV.via (k_f_Reader_isTyped_26 ..) ?_ | refine KO.via (k_f_Reader_meaningOf_26 ..) ?_ | refine KV.via (k_f_Reader_meaningOf_26 ..) ?_ | assumption | exact KK.rf | refine KK.i (nCd rfl) ?_ | refine KK.j (nCd rfl) ?_ | refine KK.a (nCd rfl) ?_ | refine KK.b (nCd rfl) ?_ | refine KK.c (nCd rfl) ?_)
set_option maxRecDepth 20000 in
theorem k_f_Statements_isMandatory_8 (a1 : Int) (a2 : Int) (g : G2) : KO cC g (f_Statements_isMandatory_8 a1 a2 g) := by
  unfold f_Statements_isMandatory_8
  repeat' (with_reducible first | refine KO.ite ?_ ?_ | refine KO.bd ?_ (fun _ _ _ => ?_) | refine KO.bind ?_ (fun _ _ => ?_) | exact KO.no | refine KO.so ?_ | assumption | exact KK.rf | refine KK.i (nCd rfl) ?_ | refine KK.j (nCd rfl) ?_ | refine KK.a (nCd rfl) ?_ | refine KK.b (nCd rfl) ?_ | refine KK.c (nCd rfl) ?_)
set_option maxRecDepth 20000 in
theorem k_b_Letters_begin_44_0 (L : Nat → Int → Int → G2 → Option (G2)) (i1 : Int) (i2 : Int) (g : G2) (hL : ∀ x0 x1 x2 g, KV cC g (L x0 x1 x2 g)) : KV cC g (b_Letters_begin_44_0 L i1 i2 g) := by
  unfold b_Letters_begin_44_0
  repeat' (with_reducible first | refine KV.ite ?_ ?_ | refine KV.bd ?_ (fun _ _ _ => ?_) | refine KV.bind ?_ (fun _ _ => ?_) | exact KV.no | refine KV.so ?_ | refine KO.via (k_f_Statements_isMandatory_8 ..) ?_ | refine KV.via (k_f_Statements_isMandatory_8 ..) ?_ | refine KV.via (hL ..) ?_ | assumption | exact KK.rf | refine KK.i (nCd rfl) ?_ | refine KK.j (nCd rfl) ?_ | refine KK.a (nCd rfl) ?_ | refine KK.b (nCd rfl) ?_ | refine KK.c (nCd rfl) ?_)
set_option maxRecDepth 20000 in
theorem k_l_Letters_begin_44 : ∀ (n : Nat) (x0 : Nat) (x1 : Int) (x2 : Int) (g : G2), KV cC g (l_Letters_begin_44 n x0 x1 x2 g) := by
  intro n
  induction n with
  | zero => intros; exact KV.no
  | succ n ih =>
    intro x0 x1 x2 g
    unfold l_Letters_begin_44
    try dsimp only
    first | (split <;> (first  | exact k_b_Letters_begin_44_0 _ _ _ _ ih)) | (first  | exact k_b_Letters_begin_44_0 _ _ _ _ ih)
set_option maxRecDepth 20000 in
theorem k_f_Letters_begin_44 (a1 : Int) (g : G2) : KV cC g (f_Letters_begin_44 a1 g) := by
  unfold f_Letters_begin_44
  repeat' (with_reducible first | refine KV.ite ?_ ?_ | refine KV.bd ?_ (fun _ _ _ => ?_) | refine KV.bind ?_ (fun _ _ => ?_) | exact KV.no | refine KV.so ?_ | refine KO.via (k_l_Letters_begin_44 ..) ?_ | refine KV.via (k_l_Letters_begin_44 ..) ?_ | assumption | exact KK.rf | refine KK.i (nCd rfl) ?_ | refine KK.j (nCd rfl) ?_ | refine KK.a (nCd rfl) ?_ | refine KK.b (nCd rfl) ?_ | refine KK.c (nCd rfl) ?_)
set_option maxRecDepth 20000 in
theorem k_f_Assertions_noteGap_17 (g : G2) : KV cC g (f_Assertions_noteGap_17 g) := by
  unfold f_Assertions_noteGap_17
  repeat' (with_reducible first | refine KV.ite ?_ ?_ | refine KV.bd ?_ (fun _ _ _ => ?_) | refine KV.bind ?_ (fun _ _ => ?_) | exact KV.no | refine KV.so ?_ | assumption | exact KK.rf | refine KK.i (nCd rfl) ?_ | refine KK.j (nCd rfl) ?_ | refine KK.a (nCd rfl) ?_ | refine KK.b (nCd rfl) ?_ | refine KK.c (nCd rfl) ?_)
set_option maxRecDepth 20000 in
theorem k_f_Proof_leaveGap_34 (g : G2) : KV cC g (f_Proof_leaveGap_34 g) := by
  unfold f_Proof_leaveGap_34
  repeat' (with_reducible first | refine KV.ite ?_ ?_ | refine KV.bd ?_ (fun _ _ _ => ?_) | refine KV.bind ?_ (fun _ _ => ?_) | exact KV.no | refine KV.so ?_ | refine KO.via (k_f_Assertions_noteGap_17 ..) ?_ | refine KV.via (k_f_Assertions_noteGap_17 ..) ?_ | assumption | exact KK.rf | refine KK.i (nCd rfl) ?_ | refine KK.j (nCd rfl) ?_ | refine KK.a (nCd rfl) ?_ | refine KK.b (nCd rfl) ?_ | refine KK.c (nCd rfl) ?_)
set_option maxRecDepth 20000 in
theorem k_f_Statements_isHypothesis_8 (a1 : Int) (g : G2) : KO cC g (f_Statements_isHypothesis_8 a1 g) := by
  unfold f_Statements_isHypothesis_8
  repeat' (with_reducible first | refine KO.ite ?_ ?_ | refine KO.bd ?_ (fun _ _ _ => ?_) | refine KO.bind ?_ (fun _ _ => ?_) | exact KO.no | refine KO.so ?_ | assumption | exact KK.rf | refine KK.i (nCd rfl) ?_ | refine KK.j (nCd rfl) ?_ | refine KK.a (nCd rfl) ?_ | refine KK.b (nCd rfl) ?_ | refine KK.c (nCd rfl) ?_)
set_option maxRecDepth 20000 in
theorem k_f_Reader_isActiveHypothesis_26 (a1 : Int) (g : G2) : KO cC g (f_Reader_isActiveHypothesis_26 a1 g) := by
  unfold f_Reader_isActiveHypothesis_26
  repeat' (with_reducible first | refine KO.ite ?_ ?_ | refine KO.bd ?_ (fun _ _ _ => ?_) | refine KO.bind ?_ (fun _ _ => ?_) | exact KO.no | refine KO.so ?_ | assumption | exact KK.rf | refine KK.i (nCd rfl) ?_ | refine KK.j (nCd rfl) ?_ | refine KK.a (nCd rfl) ?_ | refine KK.b (nCd rfl) ?_ | refine KK.c (nCd rfl) ?_)
set_option maxRecDepth 20000 in
theorem k_f_Reader_findUsable_26 (a1 : Int64) (g : G2) : KO cC g (f_Reader_findUsable_26 a1 g) := by
  unfold f_Reader_findUsable_26
  repeat' (with_reducible first | refine KO.ite ?_ ?_ | refine KO.bd ?_ (fun _ _ _ => ?_) | refine KO.bind ?_ (fun _ _ => ?_) | exact KO.no | refine KO.so ?_ | refine KO.via (k_f_Names_find_4 ..) ?_ | refine KV.via (k_f_Names_find_4 ..) ?_ | refine KO.via (k_f_Reader_isActiveHypothesis_26 ..) ?_ | refine KV.via (k_f_Reader_isActiveHypothesis_26 ..) ?_ | refine KO.via (k_f_Statements_isHypothesis_8 ..) ?_ | refine KV.via (k_f_Statements_isHypothesis_8 ..) ?_ | assumption | exact KK.rf | refine KK.i (nCd rfl) ?_ | refine KK.j (nCd rfl) ?_ | refine KK.a (nCd rfl) ?_ | refine KK.b (nCd rfl) ?_ | refine KK.c (nCd rfl) ?_)
set_option maxRecDepth 20000 in
theorem k_f_J_bitCount (a0 : Int64) (g : G2) : KO cC g (f_J_bitCount a0 g) := by
  unfold f_J_bitCount
  repeat' (with_reducible first | refine KO.ite ?_ ?_ | refine KO.bd ?_ (fun _ _ _ => ?_) | refine KO.bind ?_ (fun _ _ => ?_) | exact KO.no | refine KO.so ?_ | assumption | exact KK.rf | refine KK.i (nCd rfl) ?_ | refine KK.j (nCd rfl) ?_ | refine KK.a (nCd rfl) ?_ | refine KK.b (nCd rfl) ?_ | refine KK.c (nCd rfl) ?_)
set_option maxRecDepth 20000 in
theorem k_f_Expressions_symbolAt_35 (a1 : Int) (a2 : Int) (g : G2) : KO cC g (f_Expressions_symbolAt_35 a1 a2 g) := by
  unfold f_Expressions_symbolAt_35
  repeat' (with_reducible first | refine KO.ite ?_ ?_ | refine KO.bd ?_ (fun _ _ _ => ?_) | refine KO.bind ?_ (fun _ _ => ?_) | exact KO.no | refine KO.so ?_ | assumption | exact KK.rf | refine KK.i (nCd rfl) ?_ | refine KK.j (nCd rfl) ?_ | refine KK.a (nCd rfl) ?_ | refine KK.b (nCd rfl) ?_ | refine KK.c (nCd rfl) ?_)
set_option maxRecDepth 20000 in
theorem k_f_Expressions_symbolAt_11 (a1 : Int) (a2 : Int) (g : G2) : KO cC g (f_Expressions_symbolAt_11 a1 a2 g) := by
  unfold f_Expressions_symbolAt_11
  repeat' (with_reducible first | refine KO.ite ?_ ?_ | refine KO.bd ?_ (fun _ _ _ => ?_) | refine KO.bind ?_ (fun _ _ => ?_) | exact KO.no | refine KO.so ?_ | assumption | exact KK.rf | refine KK.i (nCd rfl) ?_ | refine KK.j (nCd rfl) ?_ | refine KK.a (nCd rfl) ?_ | refine KK.b (nCd rfl) ?_ | refine KK.c (nCd rfl) ?_)
set_option maxRecDepth 20000 in
theorem k_f_Expressions_startRow_39 (g : G2) : KV cC g (f_Expressions_startRow_39 g) := by
  unfold f_Expressions_startRow_39
  repeat' (with_reducible first | refine KV.ite ?_ ?_ | refine KV.bd ?_ (fun _ _ _ => ?_) | refine KV.bind ?_ (fun _ _ => ?_) | exact KV.no | refine KV.so ?_ | assumption | exact KK.rf | refine KK.i (nCd rfl) ?_ | refine KK.j (nCd rfl) ?_ | refine KK.a (nCd rfl) ?_ | refine KK.b (nCd rfl) ?_ | refine KK.c (nCd rfl) ?_)
set_option maxRecDepth 20000 in
theorem k_f_Expressions_rowHasRoom_39 (a1 : Int) (g : G2) : KO cC g (f_Expressions_rowHasRoom_39 a1 g) := by
  unfold f_Expressions_rowHasRoom_39
  repeat' (with_reducible first | refine KO.ite ?_ ?_ | refine KO.bd ?_ (fun _ _ _ => ?_) | refine KO.bind ?_ (fun _ _ => ?_) | exact KO.no | refine KO.so ?_ | assumption | exact KK.rf | refine KK.i (nCd rfl) ?_ | refine KK.j (nCd rfl) ?_ | refine KK.a (nCd rfl) ?_ | refine KK.b (nCd rfl) ?_ | refine KK.c (nCd rfl) ?_)
set_option maxRecDepth 20000 in
theorem k_b_Expressions_appendBody_39_35_0 (L : Nat → Int → Int → G2 → Option (G2)) (i2 : Int) (i3 : Int) (g : G2) (hL : ∀ x0 x1 x2 g, KV cC g (L x0 x1 x2 g)) : KV cC g (b_Expressions_appendBody_39_35_0 L i2 i3 g) := by
  unfold b_Expressions_appendBody_39_35_0
  repeat' (with_reducible first | refine KV.ite ?_ ?_ | refine KV.bd ?_ (fun _ _ _ => ?_) | refine KV.bind ?_ (fun _ _ => ?_) | exact KV.no | refine KV.so ?_ | refine KV.via (hL ..) ?_ | assumption | exact KK.rf | refine KK.i (nCd rfl) ?_ | refine KK.j (nCd rfl) ?_ | refine KK.a (nCd rfl) ?_ | refine KK.b (nCd rfl) ?_ | refine KK.c (nCd rfl) ?_)
set_option maxRecDepth 20000 in
theorem k_l_Expressions_appendBody_39_35 : ∀ (n : Nat) (x0 : Nat) (x1 : Int) (x2 : Int) (g : G2), KV cC g (l_Expressions_appendBody_39_35 n x0 x1 x2 g) := by
  intro n
  induction n with
  | zero => intros; exact KV.no
  | succ n ih =>
    intro x0 x1 x2 g
    unfold l_Expressions_appendBody_39_35
    try dsimp only
    first | (split <;> (first  | exact k_b_Expressions_appendBody_39_35_0 _ _ _ _ ih)) | (first  | exact k_b_Expressions_appendBody_39_35_0 _ _ _ _ ih)
set_option maxRecDepth 20000 in
theorem k_f_Expressions_appendBody_39_35 (a2 : Int) (g : G2) : KV cC g (f_Expressions_appendBody_39_35 a2 g) := by
  unfold f_Expressions_appendBody_39_35
  repeat' (with_reducible first | refine KV.ite ?_ ?_ | refine KV.bd ?_ (fun _ _ _ => ?_) | refine KV.bind ?_ (fun _ _ => ?_) | exact KV.no | refine KV.so ?_ | refine KO.via (k_l_Expressions_appendBody_39_35 ..) ?_ | refine KV.via (k_l_Expressions_appendBody_39_35 ..) ?_ | assumption | exact KK.rf | refine KK.i (nCd rfl) ?_ | refine KK.j (nCd rfl) ?_ | refine KK.a (nCd rfl) ?_ | refine KK.b (nCd rfl) ?_ | refine KK.c (nCd rfl) ?_)
set_option maxRecDepth 20000 in
theorem k_f_Expressions_append_39 (a1 : Int) (a2 : Int) (g : G2) : KV cC g (f_Expressions_append_39 a1 a2 g) := by
  unfold f_Expressions_append_39
  repeat' (with_reducible first | refine KV.ite ?_ ?_ | refine KV.bd ?_ (fun _ _ _ => ?_) | refine KV.bind ?_ (fun _ _ => ?_) | exact KV.no | refine KV.so ?_ | assumption | exact KK.rf | refine KK.i (nCd rfl) ?_ | refine KK.j (nCd rfl) ?_ | refine KK.a (nCd rfl) ?_ | refine KK.b (nCd rfl) ?_ | refine KK.c (nCd rfl) ?_)
set_option maxRecDepth 20000 in
theorem k_b_Proof_replaceIn_34_0 (L : Nat → Int → Int → G2 → Option (Int × G2)) (i1 : Int) (i3 : Int) (g : G2) (hL : ∀ x0 x1 x2 g, KO cC g (L x0 x1 x2 g)) : KO cC g (b_Proof_replaceIn_34_0 L i1 i3 g) := by
  unfold b_Proof_replaceIn_34_0
  repeat' (with_reducible first | refine KO.ite ?_ ?_ | refine KO.bd ?_ (fun _ _ _ => ?_) | refine KO.bind ?_ (fun _ _ => ?_) | exact KO.no | refine KO.so ?_ | refine KO.via (k_f_Expressions_appendBody_39_35 ..) ?_ | refine KV.via (k_f_Expressions_appendBody_39_35 ..) ?_ | refine KO.via (k_f_Expressions_append_39 ..) ?_ | refine KV.via (k_f_Expressions_append_39 ..) ?_ | refine KO.via (k_f_Expressions_rowHasRoom_39 ..) ?_ | refine KV.via (k_f_Expressions_rowHasRoom_39 ..) ?_ | refine KO.via (k_f_Expressions_symbolAt_11 ..) ?_ | refine KV.via (k_f_Expressions_symbolAt_11 ..) ?_ | refine KO.via (hL ..) ?_ | assumption | exact KK.rf | refine KK.i (nCd rfl) ?_ | refine KK.j (nCd rfl) ?_ | refine KK.a (nCd rfl) ?_ | refine KK.b (nCd rfl) ?_ | refine KK.c (nCd rfl) ?_)
set_option maxRecDepth 20000 in
theorem k_l_Proof_replaceIn_34 : ∀ (n : Nat) (x0 : Nat) (x1 : Int) (x2 : Int) (g : G2), KO cC g (l_Proof_replaceIn_34 n x0 x1 x2 g) := by
  intro n
  induction n with
  | zero => intros; exact KO.no
  | succ n ih =>
    intro x0 x1 x2 g
    unfold l_Proof_replaceIn_34
    try dsimp only
    first | (split <;> (first  | exact k_b_Proof_replaceIn_34_0 _ _ _ _ ih)) | (first  | exact k_b_Proof_replaceIn_34_0 _ _ _ _ ih)
set_option maxRecDepth 20000 in
theorem k_f_Proof_replaceIn_34 (a1 : Int) (g : G2) : KO cC g (f_Proof_replaceIn_34 a1 g) := by
  unfold f_Proof_replaceIn_34
  repeat' (with_reducible first | refine KO.ite ?_ ?_ | refine KO.bd ?_ (fun _ _ _ => ?_) | refine KO.bind ?_ (fun _ _ => ?_) | exact KO.no | refine KO.so ?_ | refine KO.via (k_f_Expressions_startRow_39 ..) ?_ | refine KV.via (k_f_Expressions_startRow_39 ..) ?_ | refine KO.via (k_l_Proof_replaceIn_34 ..) ?_ | refine KV.via (k_l_Proof_replaceIn_34 ..) ?_ | assumption | exact KK.rf | refine KK.i (nCd rfl) ?_ | refine KK.j (nCd rfl) ?_ | refine KK.a (nCd rfl) ?_ | refine KK.b (nCd rfl) ?_ | refine KK.c (nCd rfl) ?_)
set_option maxRecDepth 20000 in
theorem k_b_Expressions_isSame_35_39_0 (L : Nat → Int → Int → Int → G2 → Option (Int × G2)) (i1 : Int) (i3 : Int) (i4 : Int) (g : G2) (hL : ∀ x0 x1 x2 x3 g, KO cC g (L x0 x1 x2 x3 g)) : KO cC g (b_Expressions_isSame_35_39_0 L i1 i3 i4 g) := by
  unfold b_Expressions_isSame_35_39_0
  repeat' (with_reducible first | refine KO.ite ?_ ?_ | refine KO.bd ?_ (fun _ _ _ => ?_) | refine KO.bind ?_ (fun _ _ => ?_) | exact KO.no | refine KO.so ?_ | refine KO.via (hL ..) ?_ | assumption | exact KK.rf | refine KK.i (nCd rfl) ?_ | refine KK.j (nCd rfl) ?_ | refine KK.a (nCd rfl) ?_ | refine KK.b (nCd rfl) ?_ | refine KK.c (nCd rfl) ?_)
set_option maxRecDepth 20000 in
theorem k_l_Expressions_isSame_35_39 : ∀ (n : Nat) (x0 : Nat) (x1 : Int) (x2 : Int) (x3 : Int) (g : G2), KO cC g (l_Expressions_isSame_35_39 n x0 x1 x2 x3 g) := by
  intro n
  induction n with
  | zero => intros; exact KO.no
  | succ n ih =>
    intro x0 x1 x2 x3 g
    unfold l_Expressions_isSame_35_39
    try dsimp only
    first | (split <;> (first  | exact k_b_Expressions_isSame_35_39_0 _ _ _ _ _ ih)) | (first  | exact k_b_Expressions_isSame_35_39_0 _ _ _ _ _ ih)
set_option maxRecDepth 20000 in
theorem k_f_Expressions_isSame_35_39 (a1 : Int) (a3 : Int) (g : G2) : KO cC g (f_Expressions_isSame_35_39 a1 a3 g) := by
  unfold f_Expressions_isSame_35_39
  repeat' (with_reducible first | refine KO.ite ?_ ?_ | refine KO.bd ?_ (fun _ _ _ => ?_) | refine KO.bind ?_ (fun _ _ => ?_) | exact KO.no | refine KO.so ?_ | refine KO.via (k_l_Expressions_isSame_35_39 ..) ?_ | refine KV.via (k_l_Expressions_isSame_35_39 ..) ?_ | assumption | exact KK.rf | refine KK.i (nCd rfl) ?_ | refine KK.j (nCd rfl) ?_ | refine KK.a (nCd rfl) ?_ | refine KK.b (nCd rfl) ?_ | refine KK.c (nCd rfl) ?_)
set_option maxRecDepth 20000 in
theorem k_b_Proof_bind_34_0 (L : Nat → Int → Int → Int → G2 → Option (Int × G2)) (i1 : Int) (i4 : Int) (i5 : Int) (g : G2) (hL : ∀ x0 x1 x2 x3 g, KO cC g (L x0 x1 x2 x3 g)) : KO cC g (b_Proof_bind_34_0 L i1 i4 i5 g) := by
  unfold b_Proof_bind_34_0
  repeat' (with_reducible first | refine KO.ite ?_ ?_ | refine KO.bd ?_ (fun _ _ _ => ?_) | refine KO.bind ?_ (fun _ _ => ?_) | exact KO.no | refine KO.so ?_ | refine KO.via (k_f_Expressions_isSame_35_39 ..) ?_ | refine KV.via (k_f_Expressions_isSame_35_39 ..) ?_ | refine KO.via (k_f_Expressions_symbolAt_11 ..) ?_ | refine KV.via (k_f_Expressions_symbolAt_11 ..) ?_ | refine KO.via (k_f_Expressions_symbolAt_35 ..) ?_ | refine KV.via (k_f_Expressions_symbolAt_35 ..) ?_ | refine KO.via (k_f_Proof_replaceIn_34 ..) ?_ | refine KV.via (k_f_Proof_replaceIn_34 ..) ?_ | refine KO.via (k_f_Statements_isMandatory_8 ..) ?_ | refine KV.via (k_f_Statements_isMandatory_8 ..) ?_ | refine KO.via (hL ..) ?_ | assumption | exact KK.rf | refine KK.i (nCd rfl) ?_ | refine KK.j (nCd rfl) ?_ | refine KK.a (nCd rfl) ?_ | refine KK.b (nCd rfl) ?_ | refine KK.c (nCd rfl) ?_)
set_option maxRecDepth 20000 in
theorem k_l_Proof_bind_34 : ∀ (n : Nat) (x0 : Nat) (x1 : Int) (x2 : Int) (x3 : Int) (g : G2), KO cC g (l_Proof_bind_34 n x0 x1 x2 x3 g) := by
  intro n
  induction n with
  | zero => intros; exact KO.no
  | succ n ih =>
    intro x0 x1 x2 x3 g
    unfold l_Proof_bind_34
    try dsimp only
    first | (split <;> (first  | exact k_b_Proof_bind_34_0 _ _ _ _ _ ih)) | (first  | exact k_b_Proof_bind_34_0 _ _ _ _ _ ih)
set_option maxRecDepth 20000 in
theorem k_f_Proof_bind_34 (a1 : Int) (a2 : Int) (g : G2) : KO cC g (f_Proof_bind_34 a1 a2 g) := by
  unfold f_Proof_bind_34
  repeat' (with_reducible first | refine KO.ite ?_ ?_ | refine KO.bd ?_ (fun _ _ _ => ?_) | refine KO.bind ?_ (fun _ _ => ?_) | exact KO.no | refine KO.so ?_ | refine KO.via (k_l_Proof_bind_34 ..) ?_ | refine KV.via (k_l_Proof_bind_34 ..) ?_ | assumption | exact KK.rf | refine KK.i (nCd rfl) ?_ | refine KK.j (nCd rfl) ?_ | refine KK.a (nCd rfl) ?_ | refine KK.b (nCd rfl) ?_ | refine KK.c (nCd rfl) ?_)
set_option maxRecDepth 20000 in
theorem k_f_Assertions_firstOfPair_17 (a1 : Int) (a2 : Int) (g : G2) : KO cC g (f_Assertions_firstOfPair_17 a1 a2 g) := by
  unfold f_Assertions_firstOfPair_17
  repeat' (with_reducible first | refine KO.ite ?_ ?_ | refine KO.bd ?_ (fun _ _ _ => ?_) | refine KO.bind ?_ (fun _ _ => ?_) | exact KO.no | refine KO.so ?_ | refine KO.via (k_f_Context_firstOf ..) ?_ | refine KV.via (k_f_Context_firstOf ..) ?_ | assumption | exact KK.rf | refine KK.i (nCd rfl) ?_ | refine KK.j (nCd rfl) ?_ | refine KK.a (nCd rfl) ?_ | refine KK.b (nCd rfl) ?_ | refine KK.c (nCd rfl) ?_)
set_option maxRecDepth 20000 in
theorem k_f_Assertions_secondOfPair_17 (a1 : Int) (a2 : Int) (g : G2) : KO cC g (f_Assertions_secondOfPair_17 a1 a2 g) := by
  unfold f_Assertions_secondOfPair_17
  repeat' (with_reducible first | refine KO.ite ?_ ?_ | refine KO.bd ?_ (fun _ _ _ => ?_) | refine KO.bind ?_ (fun _ _ => ?_) | exact KO.no | refine KO.so ?_ | refine KO.via (k_f_Context_secondOf ..) ?_ | refine KV.via (k_f_Context_secondOf ..) ?_ | assumption | exact KK.rf | refine KK.i (nCd rfl) ?_ | refine KK.j (nCd rfl) ?_ | refine KK.a (nCd rfl) ?_ | refine KK.b (nCd rfl) ?_ | refine KK.c (nCd rfl) ?_)
set_option maxRecDepth 20000 in
theorem k_b_Context_areApart_27_0 (L : Nat → Int64 → Int64 → Int → G2 → Option (Int × G2)) (l1 : Int64) (l3 : Int64) (i5 : Int) (g : G2) (hL : ∀ x0 x1 x2 x3 g, KO cC g (L x0 x1 x2 x3 g)) : KO cC g (b_Context_areApart_27_0 L l1 l3 i5 g) := by
  unfold b_Context_areApart_27_0
  repeat' (with_reducible first | refine KO.ite ?_ ?_ | refine KO.bd ?_ (fun _ _ _ => ?_) | refine KO.bind ?_ (fun _ _ => ?_) | exact KO.no | refine KO.so ?_ | refine KO.via (hL ..) ?_ | assumption | exact KK.rf | refine KK.i (nCd rfl) ?_ | refine KK.j (nCd rfl) ?_ | refine KK.a (nCd rfl) ?_ | refine KK.b (nCd rfl) ?_ | refine KK.c (nCd rfl) ?_)
set_option maxRecDepth 20000 in
theorem k_l_Context_areApart_27 : ∀ (n : Nat) (x0 : Nat) (x1 : Int64) (x2 : Int64) (x3 : Int) (g : G2), KO cC g (l_Context_areApart_27 n x0 x1 x2 x3 g) := by
  intro n
  induction n with
  | zero => intros; exact KO.no
  | succ n ih =>
    intro x0 x1 x2 x3 g
    unfold l_Context_areApart_27
    try dsimp only
    first | (split <;> (first  | exact k_b_Context_areApart_27_0 _ _ _ _ _ ih)) | (first  | exact k_b_Context_areApart_27_0 _ _ _ _ _ ih)
set_option maxRecDepth 20000 in
theorem k_f_Context_areApart_27 (a1 : Int64) (a3 : Int64) (g : G2) : KO cC g (f_Context_areApart_27 a1 a3 g) := by
  unfold f_Context_areApart_27
  repeat' (with_reducible first | refine KO.ite ?_ ?_ | refine KO.bd ?_ (fun _ _ _ => ?_) | refine KO.bind ?_ (fun _ _ => ?_) | exact KO.no | refine KO.so ?_ | refine KO.via (k_l_Context_areApart_27 ..) ?_ | refine KV.via (k_l_Context_areApart_27 ..) ?_ | assumption | exact KK.rf | refine KK.i (nCd rfl) ?_ | refine KK.j (nCd rfl) ?_ | refine KK.a (nCd rfl) ?_ | refine KK.b (nCd rfl) ?_ | refine KK.c (nCd rfl) ?_)
set_option maxRecDepth 20000 in
theorem k_b_Proof_keepsApart_34_0 (L : Nat → Int → Int → G2 → Option (Int × G2)) (i1 : Int) (i2 : Int) (g : G2) (hL : ∀ x0 x1 x2 g, KO cC g (L x0 x1 x2 g)) : KO cC g (b_Proof_keepsApart_34_0 L i1 i2 g) := by
  unfold b_Proof_keepsApart_34_0
  repeat' (with_reducible first | refine KO.ite ?_ ?_ | refine KO.bd ?_ (fun _ _ _ => ?_) | refine KO.bind ?_ (fun _ _ => ?_) | exact KO.no | refine KO.so ?_ | refine KO.via (k_f_Assertions_firstOfPair_17 ..) ?_ | refine KV.via (k_f_Assertions_firstOfPair_17 ..) ?_ | refine KO.via (k_f_Assertions_secondOfPair_17 ..) ?_ | refine KV.via (k_f_Assertions_secondOfPair_17 ..) ?_ | refine KO.via (k_f_Context_areApart_27 ..) ?_ | refine KV.via (k_f_Context_areApart_27 ..) ?_ | refine KO.via (hL ..) ?_ | assumption | exact KK.rf | refine KK.i (nCd rfl) ?_ | refine KK.j (nCd rfl) ?_ | refine KK.a (nCd rfl) ?_ | refine KK.b (nCd rfl) ?_ | refine KK.c (nCd rfl) ?_)
set_option maxRecDepth 20000 in
theorem k_l_Proof_keepsApart_34 : ∀ (n : Nat) (x0 : Nat) (x1 : Int) (x2 : Int) (g : G2), KO cC g (l_Proof_keepsApart_34 n x0 x1 x2 g) := by
  intro n
  induction n with
  | zero => intros; exact KO.no
  | succ n ih =>
    intro x0 x1 x2 g
    unfold l_Proof_keepsApart_34
    try dsimp only
    first | (split <;> (first  | exact k_b_Proof_keepsApart_34_0 _ _ _ _ ih)) | (first  | exact k_b_Proof_keepsApart_34_0 _ _ _ _ ih)
set_option maxRecDepth 20000 in
theorem k_f_Proof_keepsApart_34 (a1 : Int) (g : G2) : KO cC g (f_Proof_keepsApart_34 a1 g) := by
  unfold f_Proof_keepsApart_34
  repeat' (with_reducible first | refine KO.ite ?_ ?_ | refine KO.bd ?_ (fun _ _ _ => ?_) | refine KO.bind ?_ (fun _ _ => ?_) | exact KO.no | refine KO.so ?_ | refine KO.via (k_l_Proof_keepsApart_34 ..) ?_ | refine KV.via (k_l_Proof_keepsApart_34 ..) ?_ | assumption | exact KK.rf | refine KK.i (nCd rfl) ?_ | refine KK.j (nCd rfl) ?_ | refine KK.a (nCd rfl) ?_ | refine KK.b (nCd rfl) ?_ | refine KK.c (nCd rfl) ?_)
set_option maxRecDepth 20000 in
theorem k_f_Assertions_noteUse_17 (a1 : Int) (g : G2) : KV cC g (f_Assertions_noteUse_17 a1 g) := by
  unfold f_Assertions_noteUse_17
  repeat' (with_reducible first | refine KV.ite ?_ ?_ | refine KV.bd ?_ (fun _ _ _ => ?_) | refine KV.bind ?_ (fun _ _ => ?_) | exact KV.no | refine KV.so ?_ | assumption | exact KK.rf | refine KK.i (nCd rfl) ?_ | refine KK.j (nCd rfl) ?_ | refine KK.a (nCd rfl) ?_ | refine KK.b (nCd rfl) ?_ | refine KK.c (nCd rfl) ?_)
set_option maxRecDepth 20000 in
theorem k_f_Expressions_isFull_35 (g : G2) : KO cC g (f_Expressions_isFull_35 g) := by
  unfold f_Expressions_isFull_35
  repeat' (with_reducible first | refine KO.ite ?_ ?_ | refine KO.bd ?_ (fun _ _ _ => ?_) | refine KO.bind ?_ (fun _ _ => ?_) | exact KO.no | refine KO.so ?_ | assumption | exact KK.rf | refine KK.i (nCd rfl) ?_ | refine KK.j (nCd rfl) ?_ | refine KK.a (nCd rfl) ?_ | refine KK.b (nCd rfl) ?_ | refine KK.c (nCd rfl) ?_)
set_option maxRecDepth 20000 in
theorem k_f_Expressions_addCopy_35_39 (a2 : Int) (g : G2) : KV cC g (f_Expressions_addCopy_35_39 a2 g) := by
  unfold f_Expressions_addCopy_35_39
  repeat' (with_reducible first | refine KV.ite ?_ ?_ | refine KV.bd ?_ (fun _ _ _ => ?_) | refine KV.bind ?_ (fun _ _ => ?_) | exact KV.no | refine KV.so ?_ | assumption | exact KK.rf | refine KK.i (nCd rfl) ?_ | refine KK.j (nCd rfl) ?_ | refine KK.a (nCd rfl) ?_ | refine KK.b (nCd rfl) ?_ | refine KK.c (nCd rfl) ?_)
set_option maxRecDepth 20000 in
theorem k_f_Assertions_noteStep_17 (a1 : Int) (g : G2) : KV cC g (f_Assertions_noteStep_17 a1 g) := by
  unfold f_Assertions_noteStep_17
  repeat' (with_reducible first | refine KV.ite ?_ ?_ | refine KV.bd ?_ (fun _ _ _ => ?_) | refine KV.bind ?_ (fun _ _ => ?_) | exact KV.no | refine KV.so ?_ | assumption | exact KK.rf | refine KK.i (nCd rfl) ?_ | refine KK.j (nCd rfl) ?_ | refine KK.a (nCd rfl) ?_ | refine KK.b (nCd rfl) ?_ | refine KK.c (nCd rfl) ?_)
set_option maxRecDepth 20000 in
theorem k_f_Proof_put_34_39 (a2 : Int) (g : G2) : KO cC g (f_Proof_put_34_39 a2 g) := by
  unfold f_Proof_put_34_39
  repeat' (with_reducible first | refine KO.ite ?_ ?_ | refine KO.bd ?_ (fun _ _ _ => ?_) | refine KO.bind ?_ (fun _ _ => ?_) | exact KO.no | refine KO.so ?_ | refine KO.via (k_f_Assertions_noteStep_17 ..) ?_ | refine KV.via (k_f_Assertions_noteStep_17 ..) ?_ | refine KO.via (k_f_Expressions_addCopy_35_39 ..) ?_ | refine KV.via (k_f_Expressions_addCopy_35_39 ..) ?_ | refine KO.via (k_f_Expressions_isFull_35 ..) ?_ | refine KV.via (k_f_Expressions_isFull_35 ..) ?_ | assumption | exact KK.rf | refine KK.i (nCd rfl) ?_ | refine KK.j (nCd rfl) ?_ | refine KK.a (nCd rfl) ?_ | refine KK.b (nCd rfl) ?_ | refine KK.c (nCd rfl) ?_)
set_option maxRecDepth 20000 in
theorem k_f_Expressions_addCopy_35_11 (a2 : Int) (g : G2) : KV cC g (f_Expressions_addCopy_35_11 a2 g) := by
  unfold f_Expressions_addCopy_35_11
  repeat' (with_reducible first | refine KV.ite ?_ ?_ | refine KV.bd ?_ (fun _ _ _ => ?_) | refine KV.bind ?_ (fun _ _ => ?_) | exact KV.no | refine KV.so ?_ | assumption | exact KK.rf | refine KK.i (nCd rfl) ?_ | refine KK.j (nCd rfl) ?_ | refine KK.a (nCd rfl) ?_ | refine KK.b (nCd rfl) ?_ | refine KK.c (nCd rfl) ?_)
set_option maxRecDepth 20000 in
theorem k_f_Proof_put_34_11 (a2 : Int) (g : G2) : KO cC g (f_Proof_put_34_11 a2 g) := by
  unfold f_Proof_put_34_11
  repeat' (with_reducible first | refine KO.ite ?_ ?_ | refine KO.bd ?_ (fun _ _ _ => ?_) | refine KO.bind ?_ (fun _ _ => ?_) | exact KO.no | refine KO.so ?_ | refine KO.via (k_f_Assertions_noteStep_17 ..) ?_ | refine KV.via (k_f_Assertions_noteStep_17 ..) ?_ | refine KO.via (k_f_Expressions_addCopy_35_11 ..) ?_ | refine KV.via (k_f_Expressions_addCopy_35_11 ..) ?_ | refine KO.via (k_f_Expressions_isFull_35 ..) ?_ | refine KV.via (k_f_Expressions_isFull_35 ..) ?_ | assumption | exact KK.rf | refine KK.i (nCd rfl) ?_ | refine KK.j (nCd rfl) ?_ | refine KK.a (nCd rfl) ?_ | refine KK.b (nCd rfl) ?_ | refine KK.c (nCd rfl) ?_)
set_option maxRecDepth 20000 in
theorem k_f_Proof_stepWith_34 (a1 : Int) (g : G2) : KO cC g (f_Proof_stepWith_34 a1 g) := by
  unfold f_Proof_stepWith_34
  repeat' (with_reducible first | refine KO.ite ?_ ?_ | refine KO.bd ?_ (fun _ _ _ => ?_) | refine KO.bind ?_ (fun _ _ => ?_) | exact KO.no | refine KO.so ?_ | refine KO.via (k_f_Assertions_noteUse_17 ..) ?_ | refine KV.via (k_f_Assertions_noteUse_17 ..) ?_ | refine KO.via (k_f_J_bitCount ..) ?_ | refine KV.via (k_f_J_bitCount ..) ?_ | refine KO.via (k_f_Proof_bind_34 ..) ?_ | refine KV.via (k_f_Proof_bind_34 ..) ?_ | refine KO.via (k_f_Proof_keepsApart_34 ..) ?_ | refine KV.via (k_f_Proof_keepsApart_34 ..) ?_ | refine KO.via (k_f_Proof_put_34_11 ..) ?_ | refine KV.via (k_f_Proof_put_34_11 ..) ?_ | refine KO.via (k_f_Proof_put_34_39 ..) ?_ | refine KV.via (k_f_Proof_put_34_39 ..) ?_ | refine KO.via (k_f_Proof_replaceIn_34 ..) ?_ | refine KV.via (k_f_Proof_replaceIn_34 ..) ?_ | refine KO.via (k_f_Statements_isHypothesis_8 ..) ?_ | refine KV.via (k_f_Statements_isHypothesis_8 ..) ?_ | assumption | exact KK.rf | refine KK.i (nCd rfl) ?_ | refine KK.j (nCd rfl) ?_ | refine KK.a (nCd rfl) ?_ | refine KK.b (nCd rfl) ?_ | refine KK.c (nCd rfl) ?_)
set_option maxRecDepth 20000 in
theorem k_f_Reader_takeStep_26 (a1 : Int64) (g : G2) : KO cC g (f_Reader_takeStep_26 a1 g) := by
  unfold f_Reader_takeStep_26
  repeat' (with_reducible first | refine KO.ite ?_ ?_ | refine KO.bd ?_ (fun _ _ _ => ?_) | refine KO.bind ?_ (fun _ _ => ?_) | exact KO.no | refine KO.so ?_ | refine KO.via (k_f_Proof_leaveGap_34 ..) ?_ | refine KV.via (k_f_Proof_leaveGap_34 ..) ?_ | refine KO.via (k_f_Proof_stepWith_34 ..) ?_ | refine KV.via (k_f_Proof_stepWith_34 ..) ?_ | refine KO.via (k_f_Reader_findUsable_26 ..) ?_ | refine KV.via (k_f_Reader_findUsable_26 ..) ?_ | assumption | exact KK.rf | refine KK.i (nCd rfl) ?_ | refine KK.j (nCd rfl) ?_ | refine KK.a (nCd rfl) ?_ | refine KK.b (nCd rfl) ?_ | refine KK.c (nCd rfl) ?_)
set_option maxRecDepth 20000 in
theorem k_f_Reader_beginSteps_26 (a1 : Int64) (g : G2) : KO cC g (f_Reader_beginSteps_26 a1 g) := by
  unfold f_Reader_beginSteps_26
  repeat' (with_reducible first | refine KO.ite ?_ ?_ | refine KO.bd ?_ (fun _ _ _ => ?_) | refine KO.bind ?_ (fun _ _ => ?_) | exact KO.no | refine KO.so ?_ | refine KO.via (k_f_Letters_begin_44 ..) ?_ | refine KV.via (k_f_Letters_begin_44 ..) ?_ | refine KO.via (k_f_Reader_takeStep_26 ..) ?_ | refine KV.via (k_f_Reader_takeStep_26 ..) ?_ | assumption | exact KK.rf | refine KK.i (nCd rfl) ?_ | refine KK.j (nCd rfl) ?_ | refine KK.a (nCd rfl) ?_ | refine KK.b (nCd rfl) ?_ | refine KK.c (nCd rfl) ?_)
set_option maxRecDepth 20000 in
theorem k_f_Letters_addListed_44 (a1 : Int) (g : G2) : KO cC g (f_Letters_addListed_44 a1 g) := by
  unfold f_Letters_addListed_44
  repeat' (with_reducible first | refine KO.ite ?_ ?_ | refine KO.bd ?_ (fun _ _ _ => ?_) | refine KO.bind ?_ (fun _ _ => ?_) | exact KO.no | refine KO.so ?_ | assumption | exact KK.rf | refine KK.i (nCd rfl) ?_ | refine KK.j (nCd rfl) ?_ | refine KK.a (nCd rfl) ?_ | refine KK.b (nCd rfl) ?_ | refine KK.c (nCd rfl) ?_)
set_option maxRecDepth 20000 in
theorem k_f_Reader_takeListed_26 (a1 : Int64) (g : G2) : KO cC g (f_Reader_takeListed_26 a1 g) := by
  unfold f_Reader_takeListed_26
  repeat' (with_reducible first | refine KO.ite ?_ ?_ | refine KO.bd ?_ (fun _ _ _ => ?_) | refine KO.bind ?_ (fun _ _ => ?_) | exact KO.no | refine KO.so ?_ | refine KO.via (k_f_Letters_addListed_44 ..) ?_ | refine KV.via (k_f_Letters_addListed_44 ..) ?_ | refine KO.via (k_f_Reader_findUsable_26 ..) ?_ | refine KV.via (k_f_Reader_findUsable_26 ..) ?_ | refine KO.via (k_f_Statements_isMandatory_8 ..) ?_ | refine KV.via (k_f_Statements_isMandatory_8 ..) ?_ | assumption | exact KK.rf | refine KK.i (nCd rfl) ?_ | refine KK.j (nCd rfl) ?_ | refine KK.a (nCd rfl) ?_ | refine KK.b (nCd rfl) ?_ | refine KK.c (nCd rfl) ?_)
set_option maxRecDepth 20000 in
theorem k_f_Letters_addGap_44 (g : G2) : KO cC g (f_Letters_addGap_44 g) := by
  unfold f_Letters_addGap_44
  repeat' (with_reducible first | refine KO.ite ?_ ?_ | refine KO.bd ?_ (fun _ _ _ => ?_) | refine KO.bind ?_ (fun _ _ => ?_) | exact KO.no | refine KO.so ?_ | refine KO.via (k_f_Proof_leaveGap_34 ..) ?_ | refine KV.via (k_f_Proof_leaveGap_34 ..) ?_ | assumption | exact KK.rf | refine KK.i (nCd rfl) ?_ | refine KK.j (nCd rfl) ?_ | refine KK.a (nCd rfl) ?_ | refine KK.b (nCd rfl) ?_ | refine KK.c (nCd rfl) ?_)
set_option maxRecDepth 20000 in
theorem k_f_Expressions_addCopy_46_35 (a2 : Int) (g : G2) : KV cC g (f_Expressions_addCopy_46_35 a2 g) := by
  unfold f_Expressions_addCopy_46_35
  repeat' (with_reducible first | refine KV.ite ?_ ?_ | refine KV.bd ?_ (fun _ _ _ => ?_) | refine KV.bind ?_ (fun _ _ => ?_) | exact KV.no | refine KV.so ?_ | assumption | exact KK.rf | refine KK.i (nCd rfl) ?_ | refine KK.j (nCd rfl) ?_ | refine KK.a (nCd rfl) ?_ | refine KK.b (nCd rfl) ?_ | refine KK.c (nCd rfl) ?_)
set_option maxRecDepth 20000 in
theorem k_f_Letters_addTag_44 (g : G2) : KO cC g (f_Letters_addTag_44 g) := by
  unfold f_Letters_addTag_44
  repeat' (with_reducible first | refine KO.ite ?_ ?_ | refine KO.bd ?_ (fun _ _ _ => ?_) | refine KO.bind ?_ (fun _ _ => ?_) | exact KO.no | refine KO.so ?_ | refine KO.via (k_f_Expressions_addCopy_46_35 ..) ?_ | refine KV.via (k_f_Expressions_addCopy_46_35 ..) ?_ | assumption | exact KK.rf | refine KK.i (nCd rfl) ?_ | refine KK.j (nCd rfl) ?_ | refine KK.a (nCd rfl) ?_ | refine KK.b (nCd rfl) ?_ | refine KK.c (nCd rfl) ?_)
set_option maxRecDepth 20000 in
theorem k_f_Letters_takeLetter_44 (a1 : Int) (g : G2) : KO cC g (f_Letters_takeLetter_44 a1 g) := by
  unfold f_Letters_takeLetter_44
  repeat' (with_reducible first | refine KO.ite ?_ ?_ | refine KO.bd ?_ (fun _ _ _ => ?_) | refine KO.bind ?_ (fun _ _ => ?_) | exact KO.no | refine KO.so ?_ | refine KO.via (k_f_Letters_addGap_44 ..) ?_ | refine KV.via (k_f_Letters_addGap_44 ..) ?_ | refine KO.via (k_f_Letters_addTag_44 ..) ?_ | refine KV.via (k_f_Letters_addTag_44 ..) ?_ | assumption | exact KK.rf | refine KK.i (nCd rfl) ?_ | refine KK.j (nCd rfl) ?_ | refine KK.a (nCd rfl) ?_ | refine KK.b (nCd rfl) ?_ | refine KK.c (nCd rfl) ?_)
set_option maxRecDepth 20000 in
theorem k_f_Expressions_addCopy_35_46 (a2 : Int) (g : G2) : KV cC g (f_Expressions_addCopy_35_46 a2 g) := by
  unfold f_Expressions_addCopy_35_46
  repeat' (with_reducible first | refine KV.ite ?_ ?_ | refine KV.bd ?_ (fun _ _ _ => ?_) | refine KV.bind ?_ (fun _ _ => ?_) | exact KV.no | refine KV.so ?_ | assumption | exact KK.rf | refine KK.i (nCd rfl) ?_ | refine KK.j (nCd rfl) ?_ | refine KK.a (nCd rfl) ?_ | refine KK.b (nCd rfl) ?_ | refine KK.c (nCd rfl) ?_)
set_option maxRecDepth 20000 in
theorem k_f_Proof_put_34_46 (a2 : Int) (g : G2) : KO cC g (f_Proof_put_34_46 a2 g) := by
  unfold f_Proof_put_34_46
  repeat' (with_reducible first | refine KO.ite ?_ ?_ | refine KO.bd ?_ (fun _ _ _ => ?_) | refine KO.bind ?_ (fun _ _ => ?_) | exact KO.no | refine KO.so ?_ | refine KO.via (k_f_Assertions_noteStep_17 ..) ?_ | refine KV.via (k_f_Assertions_noteStep_17 ..) ?_ | refine KO.via (k_f_Expressions_addCopy_35_46 ..) ?_ | refine KV.via (k_f_Expressions_addCopy_35_46 ..) ?_ | refine KO.via (k_f_Expressions_isFull_35 ..) ?_ | refine KV.via (k_f_Expressions_isFull_35 ..) ?_ | assumption | exact KK.rf | refine KK.i (nCd rfl) ?_ | refine KK.j (nCd rfl) ?_ | refine KK.a (nCd rfl) ?_ | refine KK.b (nCd rfl) ?_ | refine KK.c (nCd rfl) ?_)
set_option maxRecDepth 20000 in
theorem k_f_Letters_stepWithNumber_44 (g : G2) : KO cC g (f_Letters_stepWithNumber_44 g) := by
  unfold f_Letters_stepWithNumber_44
  repeat' (with_reducible first | refine KO.ite ?_ ?_ | refine KO.bd ?_ (fun _ _ _ => ?_) | refine KO.bind ?_ (fun _ _ => ?_) | exact KO.no | refine KO.so ?_ | refine KO.via (k_f_Proof_put_34_46 ..) ?_ | refine KV.via (k_f_Proof_put_34_46 ..) ?_ | refine KO.via (k_f_Proof_stepWith_34 ..) ?_ | refine KV.via (k_f_Proof_stepWith_34 ..) ?_ | assumption | exact KK.rf | refine KK.i (nCd rfl) ?_ | refine KK.j (nCd rfl) ?_ | refine KK.a (nCd rfl) ?_ | refine KK.b (nCd rfl) ?_ | refine KK.c (nCd rfl) ?_)
set_option maxRecDepth 20000 in
theorem k_b_Letters_takeLetters_44_2_0 (L : Nat → Int → Int → G2 → Option (Int × G2)) (i2 : Int) (i3 : Int) (g : G2) (hL : ∀ x0 x1 x2 g, KO cC g (L x0 x1 x2 g)) : KO cC g (b_Letters_takeLetters_44_2_0 L i2 i3 g) := by
  unfold b_Letters_takeLetters_44_2_0
  repeat' (with_reducible first | refine KO.ite ?_ ?_ | refine KO.bd ?_ (fun _ _ _ => ?_) | refine KO.bind ?_ (fun _ _ => ?_) | exact KO.no | refine KO.so ?_ | refine KO.via (hL ..) ?_ | assumption | exact KK.rf | refine KK.i (nCd rfl) ?_ | refine KK.j (nCd rfl) ?_ | refine KK.a (nCd rfl) ?_ | refine KK.b (nCd rfl) ?_ | refine KK.c (nCd rfl) ?_)
set_option maxRecDepth 20000 in
theorem k_b_Letters_takeLetters_44_2_1 (L : Nat → Int → Int → G2 → Option (Int × G2)) (i2 : Int) (i3 : Int) (g : G2) (hL : ∀ x0 x1 x2 g, KO cC g (L x0 x1 x2 g)) : KO cC g (b_Letters_takeLetters_44_2_1 L i2 i3 g) := by
  unfold b_Letters_takeLetters_44_2_1
  repeat' (with_reducible first | refine KO.ite ?_ ?_ | refine KO.bd ?_ (fun _ _ _ => ?_) | refine KO.bind ?_ (fun _ _ => ?_) | exact KO.no | refine KO.so ?_ | refine KO.via (hL ..) ?_ | assumption | exact KK.rf | refine KK.i (nCd rfl) ?_ | refine KK.j (nCd rfl) ?_ | refine KK.a (nCd rfl) ?_ | refine KK.b (nCd rfl) ?_ | refine KK.c (nCd rfl) ?_)
set_option maxRecDepth 20000 in
theorem k_b_Letters_takeLetters_44_2_2 (L : Nat → Int → Int → G2 → Option (Int × G2)) (i2 : Int) (i3 : Int) (g : G2) (hL : ∀ x0 x1 x2 g, KO cC g (L x0 x1 x2 g)) : KO cC g (b_Letters_takeLetters_44_2_2 L i2 i3 g) := by
  unfold b_Letters_takeLetters_44_2_2
  repeat' (with_reducible first | refine KO.ite ?_ ?_ | refine KO.bd ?_ (fun _ _ _ => ?_) | refine KO.bind ?_ (fun _ _ => ?_) | exact KO.no | refine KO.so ?_ | refine KO.via (hL ..) ?_ | assumption | exact KK.rf | refine KK.i (nCd rfl) ?_ | refine KK.j (nCd rfl) ?_ | refine KK.a (nCd rfl) ?_ | refine KK.b (nCd rfl) ?_ | refine KK.c (nCd rfl) ?_)
set_option maxRecDepth 20000 in
theorem k_b_Letters_takeLetters_44_2_3 (L : Nat → Int → Int → G2 → Option (Int × G2)) (i2 : Int) (i3 : Int) (g : G2) (hL : ∀ x0 x1 x2 g, KO cC g (L x0 x1 x2 g)) : KO cC g (b_Letters_takeLetters_44_2_3 L i2 i3 g) := by
  unfold b_Letters_takeLetters_44_2_3
  repeat' (with_reducible first | refine KO.ite ?_ ?_ | refine KO.bd ?_ (fun _ _ _ => ?_) | refine KO.bind ?_ (fun _ _ => ?_) | exact KO.no | refine KO.so ?_ | refine KO.via (k_f_Letters_stepWithNumber_44 ..) ?_ | refine KV.via (k_f_Letters_stepWithNumber_44 ..) ?_ | refine KO.via (k_f_Letters_takeLetter_44 ..) ?_ | refine KV.via (k_f_Letters_takeLetter_44 ..) ?_ | refine KO.via (hL ..) ?_ | assumption | exact KK.rf | refine KK.i (nCd rfl) ?_ | refine KK.j (nCd rfl) ?_ | refine KK.a (nCd rfl) ?_ | refine KK.b (nCd rfl) ?_ | refine KK.c (nCd rfl) ?_)
set_option maxRecDepth 20000 in
theorem k_b_Letters_takeLetters_44_2_4 (L : Nat → Int → Int → G2 → Option (Int × G2)) (i2 : Int) (i3 : Int) (g : G2) (hL : ∀ x0 x1 x2 g, KO cC g (L x0 x1 x2 g)) : KO cC g (b_Letters_takeLetters_44_2_4 L i2 i3 g) := by
  unfold b_Letters_takeLetters_44_2_4
  repeat' (with_reducible first | refine KO.ite ?_ ?_ | refine KO.bd ?_ (fun _ _ _ => ?_) | refine KO.bind ?_ (fun _ _ => ?_) | exact KO.no | refine KO.so ?_ | refine KO.via (hL ..) ?_ | assumption | exact KK.rf | refine KK.i (nCd rfl) ?_ | refine KK.j (nCd rfl) ?_ | refine KK.a (nCd rfl) ?_ | refine KK.b (nCd rfl) ?_ | refine KK.c (nCd rfl) ?_)
set_option maxRecDepth 20000 in
theorem k_b_Letters_takeLetters_44_2_5 (L : Nat → Int → Int → G2 → Option (Int × G2)) (i2 : Int) (i3 : Int) (g : G2) (hL : ∀ x0 x1 x2 g, KO cC g (L x0 x1 x2 g)) : KO cC g (b_Letters_takeLetters_44_2_5 L i2 i3 g) := by
  unfold b_Letters_takeLetters_44_2_5
  repeat' (with_reducible first | refine KO.ite ?_ ?_ | refine KO.bd ?_ (fun _ _ _ => ?_) | refine KO.bind ?_ (fun _ _ => ?_) | exact KO.no | refine KO.so ?_ | refine KO.via (hL ..) ?_ | assumption | exact KK.rf | refine KK.i (nCd rfl) ?_ | refine KK.j (nCd rfl) ?_ | refine KK.a (nCd rfl) ?_ | refine KK.b (nCd rfl) ?_ | refine KK.c (nCd rfl) ?_)
set_option maxRecDepth 20000 in
theorem k_l_Letters_takeLetters_44_2 : ∀ (n : Nat) (x0 : Nat) (x1 : Int) (x2 : Int) (g : G2), KO cC g (l_Letters_takeLetters_44_2 n x0 x1 x2 g) := by
  intro n
  induction n with
  | zero => intros; exact KO.no
  | succ n ih =>
    intro x0 x1 x2 g
    unfold l_Letters_takeLetters_44_2
    try dsimp only
    first | (split <;> (first  | exact k_b_Letters_takeLetters_44_2_0 _ _ _ _ ih | exact k_b_Letters_takeLetters_44_2_1 _ _ _ _ ih | exact k_b_Letters_takeLetters_44_2_2 _ _ _ _ ih | exact k_b_Letters_takeLetters_44_2_3 _ _ _ _ ih | exact k_b_Letters_takeLetters_44_2_4 _ _ _ _ ih | exact k_b_Letters_takeLetters_44_2_5 _ _ _ _ ih)) | (first  | exact k_b_Letters_takeLetters_44_2_0 _ _ _ _ ih | exact k_b_Letters_takeLetters_44_2_1 _ _ _ _ ih | exact k_b_Letters_takeLetters_44_2_2 _ _ _ _ ih | exact k_b_Letters_takeLetters_44_2_3 _ _ _ _ ih | exact k_b_Letters_takeLetters_44_2_4 _ _ _ _ ih | exact k_b_Letters_takeLetters_44_2_5 _ _ _ _ ih)
set_option maxRecDepth 20000 in
theorem k_f_Letters_takeLetters_44_2 (g : G2) : KO cC g (f_Letters_takeLetters_44_2 g) := by
  unfold f_Letters_takeLetters_44_2
  repeat' (with_reducible first | refine KO.ite ?_ ?_ | refine KO.bd ?_ (fun _ _ _ => ?_) | refine KO.bind ?_ (fun _ _ => ?_) | exact KO.no | refine KO.so ?_ | refine KO.via (k_l_Letters_takeLetters_44_2 ..) ?_ | refine KV.via (k_l_Letters_takeLetters_44_2 ..) ?_ | assumption | exact KK.rf | refine KK.i (nCd rfl) ?_ | refine KK.j (nCd rfl) ?_ | refine KK.a (nCd rfl) ?_ | refine KK.b (nCd rfl) ?_ | refine KK.c (nCd rfl) ?_)
set_option maxRecDepth 20000 in
theorem k_f_Reader_takeName_26_2 (g : G2) : KO cC g (f_Reader_takeName_26_2 g) := by
  unfold f_Reader_takeName_26_2
  repeat' (with_reducible first | refine KO.ite ?_ ?_ | refine KO.bd ?_ (fun _ _ _ => ?_) | refine KO.bind ?_ (fun _ _ => ?_) | exact KO.no | refine KO.so ?_ | refine KO.via (k_f_Letters_takeLetters_44_2 ..) ?_ | refine KV.via (k_f_Letters_takeLetters_44_2 ..) ?_ | refine KO.via (k_f_Names_find_4 ..) ?_ | refine KV.via (k_f_Names_find_4 ..) ?_ | refine KO.via (k_f_Reader_beginSteps_26 ..) ?_ | refine KV.via (k_f_Reader_beginSteps_26 ..) ?_ | refine KO.via (k_f_Reader_declareConstant_26 ..) ?_ | refine KV.via (k_f_Reader_declareConstant_26 ..) ?_ | refine KO.via (k_f_Reader_declareVariable_26 ..) ?_ | refine KV.via (k_f_Reader_declareVariable_26 ..) ?_ | refine KO.via (k_f_Reader_takeApart_26 ..) ?_ | refine KV.via (k_f_Reader_takeApart_26 ..) ?_ | refine KO.via (k_f_Reader_takeFloating_26 ..) ?_ | refine KV.via (k_f_Reader_takeFloating_26 ..) ?_ | refine KO.via (k_f_Reader_takeLabel_26 ..) ?_ | refine KV.via (k_f_Reader_takeLabel_26 ..) ?_ | refine KO.via (k_f_Reader_takeListed_26 ..) ?_ | refine KV.via (k_f_Reader_takeListed_26 ..) ?_ | refine KO.via (k_f_Reader_takeStep_26 ..) ?_ | refine KV.via (k_f_Reader_takeStep_26 ..) ?_ | refine KO.via (k_f_Reader_takeSymbol_26 ..) ?_ | refine KV.via (k_f_Reader_takeSymbol_26 ..) ?_ | refine KO.via (k_f_Reader_takeType_26 ..) ?_ | refine KV.via (k_f_Reader_takeType_26 ..) ?_ | refine KO.via (k_f_Text_isTooLong_2 ..) ?_ | refine KV.via (k_f_Text_isTooLong_2 ..) ?_ | assumption | exact KK.rf | refine KK.i (nCd rfl) ?_ | refine KK.j (nCd rfl) ?_ | refine KK.a (nCd rfl) ?_ | refine KK.b (nCd rfl) ?_ | refine KK.c (nCd rfl) ?_)
set_option maxRecDepth 20000 in
theorem k_f_Reader_beginNames_26 (a1 : Int) (g : G2) : KO cC g (f_Reader_beginNames_26 a1 g) := by
  unfold f_Reader_beginNames_26
  repeat' (with_reducible first | refine KO.ite ?_ ?_ | refine KO.bd ?_ (fun _ _ _ => ?_) | refine KO.bind ?_ (fun _ _ => ?_) | exact KO.no | refine KO.so ?_ | assumption | exact KK.rf | refine KK.i (nCd rfl) ?_ | refine KK.j (nCd rfl) ?_ | refine KK.a (nCd rfl) ?_ | refine KK.b (nCd rfl) ?_ | refine KK.c (nCd rfl) ?_)
set_option maxRecDepth 20000 in
theorem k_f_Context_openScope_27 (g : G2) : KO cC g (f_Context_openScope_27 g) := by
  unfold f_Context_openScope_27
  repeat' (with_reducible first | refine KO.ite ?_ ?_ | refine KO.bd ?_ (fun _ _ _ => ?_) | refine KO.bind ?_ (fun _ _ => ?_) | exact KO.no | refine KO.so ?_ | assumption | exact KK.rf | refine KK.i (nCd rfl) ?_ | refine KK.j (nCd rfl) ?_ | refine KK.a (nCd rfl) ?_ | refine KK.b (nCd rfl) ?_ | refine KK.c (nCd rfl) ?_)
set_option maxRecDepth 20000 in
theorem k_f_Context_closeScope_27 (g : G2) : KO cC g (f_Context_closeScope_27 g) := by
  unfold f_Context_closeScope_27
  repeat' (with_reducible first | refine KO.ite ?_ ?_ | refine KO.bd ?_ (fun _ _ _ => ?_) | refine KO.bind ?_ (fun _ _ => ?_) | exact KO.no | refine KO.so ?_ | refine KO.via (k_f_Context_forgetPairs_27 ..) ?_ | refine KV.via (k_f_Context_forgetPairs_27 ..) ?_ | assumption | exact KK.rf | refine KK.i (nCd rfl) ?_ | refine KK.j (nCd rfl) ?_ | refine KK.a (nCd rfl) ?_ | refine KK.b (nCd rfl) ?_ | refine KK.c (nCd rfl) ?_)
set_option maxRecDepth 20000 in
theorem k_f_Reader_beginUnlabelled_26 (a1 : Int) (g : G2) : KO cC g (f_Reader_beginUnlabelled_26 a1 g) := by
  unfold f_Reader_beginUnlabelled_26
  repeat' (with_reducible first | refine KO.ite ?_ ?_ | refine KO.bd ?_ (fun _ _ _ => ?_) | refine KO.bind ?_ (fun _ _ => ?_) | exact KO.no | refine KO.so ?_ | refine KO.via (k_f_Context_closeScope_27 ..) ?_ | refine KV.via (k_f_Context_closeScope_27 ..) ?_ | refine KO.via (k_f_Context_openScope_27 ..) ?_ | refine KV.via (k_f_Context_openScope_27 ..) ?_ | refine KO.via (k_f_Reader_beginNames_26 ..) ?_ | refine KV.via (k_f_Reader_beginNames_26 ..) ?_ | assumption | exact KK.rf | refine KK.i (nCd rfl) ?_ | refine KK.j (nCd rfl) ?_ | refine KK.a (nCd rfl) ?_ | refine KK.b (nCd rfl) ?_ | refine KK.c (nCd rfl) ?_)
set_option maxRecDepth 20000 in
theorem k_f_Reader_endNames_26 (a1 : Int) (g : G2) : KO cC g (f_Reader_endNames_26 a1 g) := by
  unfold f_Reader_endNames_26
  repeat' (with_reducible first | refine KO.ite ?_ ?_ | refine KO.bd ?_ (fun _ _ _ => ?_) | refine KO.bind ?_ (fun _ _ => ?_) | exact KO.no | refine KO.so ?_ | assumption | exact KK.rf | refine KK.i (nCd rfl) ?_ | refine KK.j (nCd rfl) ?_ | refine KK.a (nCd rfl) ?_ | refine KK.b (nCd rfl) ?_ | refine KK.c (nCd rfl) ?_)
set_option maxRecDepth 20000 in
theorem k_f_Reader_takeKind_26 (a1 : Int) (g : G2) : KO cC g (f_Reader_takeKind_26 a1 g) := by
  unfold f_Reader_takeKind_26
  repeat' (with_reducible first | refine KO.ite ?_ ?_ | refine KO.bd ?_ (fun _ _ _ => ?_) | refine KO.bind ?_ (fun _ _ => ?_) | exact KO.no | refine KO.so ?_ | assumption | exact KK.rf | refine KK.i (nCd rfl) ?_ | refine KK.j (nCd rfl) ?_ | refine KK.a (nCd rfl) ?_ | refine KK.b (nCd rfl) ?_ | refine KK.c (nCd rfl) ?_)
set_option maxRecDepth 20000 in
theorem k_f_Reader_declare_26 (g : G2) : KO cC g (f_Reader_declare_26 g) := by
  unfold f_Reader_declare_26
  repeat' (with_reducible first | refine KO.ite ?_ ?_ | refine KO.bd ?_ (fun _ _ _ => ?_) | refine KO.bind ?_ (fun _ _ => ?_) | exact KO.no | refine KO.so ?_ | refine KO.via (k_f_Names_add_4 ..) ?_ | refine KV.via (k_f_Names_add_4 ..) ?_ | refine KO.via (k_f_Statements_isHypothesis_8 ..) ?_ | refine KV.via (k_f_Statements_isHypothesis_8 ..) ?_ | assumption | exact KK.rf | refine KK.i (nCd rfl) ?_ | refine KK.j (nCd rfl) ?_ | refine KK.a (nCd rfl) ?_ | refine KK.b (nCd rfl) ?_ | refine KK.c (nCd rfl) ?_)
set_option maxRecDepth 20000 in
theorem k_b_Assertions_start_17_0 (L : Nat → Int → G2 → Option (G2)) (i2 : Int) (g : G2) (hL : ∀ x0 x1 g, KV cC g (L x0 x1 g)) : KV cC g (b_Assertions_start_17_0 L i2 g) := by
  unfold b_Assertions_start_17_0
  repeat' (with_reducible first | refine KV.ite ?_ ?_ | refine KV.bd ?_ (fun _ _ _ => ?_) | refine KV.bind ?_ (fun _ _ => ?_) | exact KV.no | refine KV.so ?_ | refine KV.via (hL ..) ?_ | assumption | exact KK.rf | refine KK.i (nCd rfl) ?_ | refine KK.j (nCd rfl) ?_ | refine KK.a (nCd rfl) ?_ | refine KK.b (nCd rfl) ?_ | refine KK.c (nCd rfl) ?_)
set_option maxRecDepth 20000 in
theorem k_l_Assertions_start_17 : ∀ (n : Nat) (x0 : Nat) (x1 : Int) (g : G2), KV cC g (l_Assertions_start_17 n x0 x1 g) := by
  intro n
  induction n with
  | zero => intros; exact KV.no
  | succ n ih =>
    intro x0 x1 g
    unfold l_Assertions_start_17
    try dsimp only
    first | (split <;> (first  | exact k_b_Assertions_start_17_0 _ _ _ ih)) | (first  | exact k_b_Assertions_start_17_0 _ _ _ ih)
set_option maxRecDepth 20000 in
theorem k_f_Assertions_start_17 (a1 : Int) (g : G2) : KV cC g (f_Assertions_start_17 a1 g) := by
  unfold f_Assertions_start_17
  repeat' (with_reducible first | refine KV.ite ?_ ?_ | refine KV.bd ?_ (fun _ _ _ => ?_) | refine KV.bind ?_ (fun _ _ => ?_) | exact KV.no | refine KV.so ?_ | refine KO.via (k_l_Assertions_start_17 ..) ?_ | refine KV.via (k_l_Assertions_start_17 ..) ?_ | assumption | exact KK.rf | refine KK.i (nCd rfl) ?_ | refine KK.j (nCd rfl) ?_ | refine KK.a (nCd rfl) ?_ | refine KK.b (nCd rfl) ?_ | refine KK.c (nCd rfl) ?_)
set_option maxRecDepth 20000 in
theorem k_b_Reader_mandatoryVariables_26_0 (L : Nat → Int → Int64 → Int → G2 → Option (Int64 × G2)) (i1 : Int) (l2 : Int64) (i4 : Int) (g : G2) (hL : ∀ x0 x1 x2 x3 g, KO cC g (L x0 x1 x2 x3 g)) : KO cC g (b_Reader_mandatoryVariables_26_0 L i1 l2 i4 g) := by
  unfold b_Reader_mandatoryVariables_26_0
  repeat' (with_reducible first | refine KO.ite ?_ ?_ | refine KO.bd ?_ (fun _ _ _ => ?_) | refine KO.bind ?_ (fun _ _ => ?_) | exact KO.no | refine KO.so ?_ | refine KO.via (k_f_Reader_isActiveHypothesis_26 ..) ?_ | refine KV.via (k_f_Reader_isActiveHypothesis_26 ..) ?_ | refine KO.via (hL ..) ?_ | assumption | exact KK.rf | refine KK.i (nCd rfl) ?_ | refine KK.j (nCd rfl) ?_ | refine KK.a (nCd rfl) ?_ | refine KK.b (nCd rfl) ?_ | refine KK.c (nCd rfl) ?_)
set_option maxRecDepth 20000 in
theorem k_l_Reader_mandatoryVariables_26 : ∀ (n : Nat) (x0 : Nat) (x1 : Int) (x2 : Int64) (x3 : Int) (g : G2), KO cC g (l_Reader_mandatoryVariables_26 n x0 x1 x2 x3 g) := by
  intro n
  induction n with
  | zero => intros; exact KO.no
  | succ n ih =>
    intro x0 x1 x2 x3 g
    unfold l_Reader_mandatoryVariables_26
    try dsimp only
    first | (split <;> (first  | exact k_b_Reader_mandatoryVariables_26_0 _ _ _ _ _ ih)) | (first  | exact k_b_Reader_mandatoryVariables_26_0 _ _ _ _ _ ih)
set_option maxRecDepth 20000 in
theorem k_f_Reader_mandatoryVariables_26 (a1 : Int) (g : G2) : KO cC g (f_Reader_mandatoryVariables_26 a1 g) := by
  unfold f_Reader_mandatoryVariables_26
  repeat' (with_reducible first | refine KO.ite ?_ ?_ | refine KO.bd ?_ (fun _ _ _ => ?_) | refine KO.bind ?_ (fun _ _ => ?_) | exact KO.no | refine KO.so ?_ | refine KO.via (k_l_Reader_mandatoryVariables_26 ..) ?_ | refine KV.via (k_l_Reader_mandatoryVariables_26 ..) ?_ | assumption | exact KK.rf | refine KK.i (nCd rfl) ?_ | refine KK.j (nCd rfl) ?_ | refine KK.a (nCd rfl) ?_ | refine KK.b (nCd rfl) ?_ | refine KK.c (nCd rfl) ?_)
set_option maxRecDepth 20000 in
theorem k_f_Assertions_addPair_17 (a1 : Int) (g : G2) : KV cC g (f_Assertions_addPair_17 a1 g) := by
  unfold f_Assertions_addPair_17
  repeat' (with_reducible first | refine KV.ite ?_ ?_ | refine KV.bd ?_ (fun _ _ _ => ?_) | refine KV.bind ?_ (fun _ _ => ?_) | exact KV.no | refine KV.so ?_ | assumption | exact KK.rf | refine KK.i (nCd rfl) ?_ | refine KK.j (nCd rfl) ?_ | refine KK.a (nCd rfl) ?_ | refine KK.b (nCd rfl) ?_ | refine KK.c (nCd rfl) ?_)
set_option maxRecDepth 20000 in
theorem k_b_Reader_keepPairs_26_0 (L : Nat → Int64 → Int → Int64 → Int → G2 → Option (G2)) (l1 : Int64) (i3 : Int) (l4 : Int64) (i6 : Int) (g : G2) (hL : ∀ x0 x1 x2 x3 x4 g, KV cC g (L x0 x1 x2 x3 x4 g)) : KV cC g (b_Reader_keepPairs_26_0 L l1 i3 l4 i6 g) := by
  unfold b_Reader_keepPairs_26_0
  repeat' (with_reducible first | refine KV.ite ?_ ?_ | refine KV.bd ?_ (fun _ _ _ => ?_) | refine KV.bind ?_ (fun _ _ => ?_) | exact KV.no | refine KV.so ?_ | refine KV.via (hL ..) ?_ | assumption | exact KK.rf | refine KK.i (nCd rfl) ?_ | refine KK.j (nCd rfl) ?_ | refine KK.a (nCd rfl) ?_ | refine KK.b (nCd rfl) ?_ | refine KK.c (nCd rfl) ?_)
set_option maxRecDepth 20000 in
theorem k_b_Reader_keepPairs_26_1 (L : Nat → Int64 → Int → Int64 → Int → G2 → Option (G2)) (l1 : Int64) (i3 : Int) (l4 : Int64) (i6 : Int) (g : G2) (hL : ∀ x0 x1 x2 x3 x4 g, KV cC g (L x0 x1 x2 x3 x4 g)) : KV cC g (b_Reader_keepPairs_26_1 L l1 i3 l4 i6 g) := by
  unfold b_Reader_keepPairs_26_1
  repeat' (with_reducible first | refine KV.ite ?_ ?_ | refine KV.bd ?_ (fun _ _ _ => ?_) | refine KV.bind ?_ (fun _ _ => ?_) | exact KV.no | refine KV.so ?_ | refine KO.via (k_f_Assertions_addPair_17 ..) ?_ | refine KV.via (k_f_Assertions_addPair_17 ..) ?_ | refine KO.via (k_f_Context_pairOf ..) ?_ | refine KV.via (k_f_Context_pairOf ..) ?_ | refine KV.via (hL ..) ?_ | assumption | exact KK.rf | refine KK.i (nCd rfl) ?_ | refine KK.j (nCd rfl) ?_ | refine KK.a (nCd rfl) ?_ | refine KK.b (nCd rfl) ?_ | refine KK.c (nCd rfl) ?_)
set_option maxRecDepth 20000 in
theorem k_l_Reader_keepPairs_26 : ∀ (n : Nat) (x0 : Nat) (x1 : Int64) (x2 : Int) (x3 : Int64) (x4 : Int) (g : G2), KV cC g (l_Reader_keepPairs_26 n x0 x1 x2 x3 x4 g) := by
  intro n
  induction n with
  | zero => intros; exact KV.no
  | succ n ih =>
    intro x0 x1 x2 x3 x4 g
    unfold l_Reader_keepPairs_26
    try dsimp only
    first | (split <;> (first  | exact k_b_Reader_keepPairs_26_0 _ _ _ _ _ _ ih | exact k_b_Reader_keepPairs_26_1 _ _ _ _ _ _ ih)) | (first  | exact k_b_Reader_keepPairs_26_0 _ _ _ _ _ _ ih | exact k_b_Reader_keepPairs_26_1 _ _ _ _ _ _ ih)
set_option maxRecDepth 20000 in
theorem k_f_Reader_keepPairs_26 (a1 : Int64) (g : G2) : KV cC g (f_Reader_keepPairs_26 a1 g) := by
  unfold f_Reader_keepPairs_26
  repeat' (with_reducible first | refine KV.ite ?_ ?_ | refine KV.bd ?_ (fun _ _ _ => ?_) | refine KV.bind ?_ (fun _ _ => ?_) | exact KV.no | refine KV.so ?_ | refine KO.via (k_l_Reader_keepPairs_26 ..) ?_ | refine KV.via (k_l_Reader_keepPairs_26 ..) ?_ | assumption | exact KK.rf | refine KK.i (nCd rfl) ?_ | refine KK.j (nCd rfl) ?_ | refine KK.a (nCd rfl) ?_ | refine KK.b (nCd rfl) ?_ | refine KK.c (nCd rfl) ?_)
set_option maxRecDepth 20000 in
theorem k_b_Reader_beginAssertion_26_0 (L : Nat → Int → Int64 → Int → G2 → Option (G2)) (i1 : Int) (l2 : Int64) (i4 : Int) (g : G2) (hL : ∀ x0 x1 x2 x3 g, KV cC g (L x0 x1 x2 x3 g)) : KV cC g (b_Reader_beginAssertion_26_0 L i1 l2 i4 g) := by
  unfold b_Reader_beginAssertion_26_0
  repeat' (with_reducible first | refine KV.ite ?_ ?_ | refine KV.bd ?_ (fun _ _ _ => ?_) | refine KV.bind ?_ (fun _ _ => ?_) | exact KV.no | refine KV.so ?_ | refine KO.via (k_f_Reader_isActiveHypothesis_26 ..) ?_ | refine KV.via (k_f_Reader_isActiveHypothesis_26 ..) ?_ | refine KO.via (k_f_Reader_keepPairs_26 ..) ?_ | refine KV.via (k_f_Reader_keepPairs_26 ..) ?_ | refine KV.via (hL ..) ?_ | assumption | exact KK.rf | refine KK.i (nCd rfl) ?_ | refine KK.j (nCd rfl) ?_ | refine KK.a (nCd rfl) ?_ | refine KK.b (nCd rfl) ?_ | refine KK.c (nCd rfl) ?_)
set_option maxRecDepth 20000 in
theorem k_b_Reader_beginAssertion_26_1 (L : Nat → Int → Int64 → Int → G2 → Option (G2)) (i1 : Int) (l2 : Int64) (i4 : Int) (g : G2) (hL : ∀ x0 x1 x2 x3 g, KV cC g (L x0 x1 x2 x3 g)) : KV cC g (b_Reader_beginAssertion_26_1 L i1 l2 i4 g) := by
  unfold b_Reader_beginAssertion_26_1
  repeat' (with_reducible first | refine KV.ite ?_ ?_ | refine KV.bd ?_ (fun _ _ _ => ?_) | refine KV.bind ?_ (fun _ _ => ?_) | exact KV.no | refine KV.so ?_ | refine KV.via (hL ..) ?_ | assumption | exact KK.rf | refine KK.i (nCd rfl) ?_ | refine KK.j (nCd rfl) ?_ | refine KK.a (nCd rfl) ?_ | refine KK.b (nCd rfl) ?_ | refine KK.c (nCd rfl) ?_)
set_option maxRecDepth 20000 in
theorem k_b_Reader_beginAssertion_26_2 (L : Nat → Int → Int64 → Int → G2 → Option (G2)) (i1 : Int) (l2 : Int64) (i4 : Int) (g : G2) (hL : ∀ x0 x1 x2 x3 g, KV cC g (L x0 x1 x2 x3 g)) : KV cC g (b_Reader_beginAssertion_26_2 L i1 l2 i4 g) := by
  unfold b_Reader_beginAssertion_26_2
  repeat' (with_reducible first | refine KV.ite ?_ ?_ | refine KV.bd ?_ (fun _ _ _ => ?_) | refine KV.bind ?_ (fun _ _ => ?_) | exact KV.no | refine KV.so ?_ | refine KV.via (hL ..) ?_ | assumption | exact KK.rf | refine KK.i (nCd rfl) ?_ | refine KK.j (nCd rfl) ?_ | refine KK.a (nCd rfl) ?_ | refine KK.b (nCd rfl) ?_ | refine KK.c (nCd rfl) ?_)
set_option maxRecDepth 20000 in
theorem k_l_Reader_beginAssertion_26 : ∀ (n : Nat) (x0 : Nat) (x1 : Int) (x2 : Int64) (x3 : Int) (g : G2), KV cC g (l_Reader_beginAssertion_26 n x0 x1 x2 x3 g) := by
  intro n
  induction n with
  | zero => intros; exact KV.no
  | succ n ih =>
    intro x0 x1 x2 x3 g
    unfold l_Reader_beginAssertion_26
    try dsimp only
    first | (split <;> (first  | exact k_b_Reader_beginAssertion_26_0 _ _ _ _ _ ih | exact k_b_Reader_beginAssertion_26_1 _ _ _ _ _ ih | exact k_b_Reader_beginAssertion_26_2 _ _ _ _ _ ih)) | (first  | exact k_b_Reader_beginAssertion_26_0 _ _ _ _ _ ih | exact k_b_Reader_beginAssertion_26_1 _ _ _ _ _ ih | exact k_b_Reader_beginAssertion_26_2 _ _ _ _ _ ih)
set_option maxRecDepth 20000 in
theorem k_f_Reader_beginAssertion_26 (a1 : Int) (g : G2) : KV cC g (f_Reader_beginAssertion_26 a1 g) := by
  unfold f_Reader_beginAssertion_26
  repeat' (with_reducible first | refine KV.ite ?_ ?_ | refine KV.bd ?_ (fun _ _ _ => ?_) | refine KV.bind ?_ (fun _ _ => ?_) | exact KV.no | refine KV.so ?_ | refine KO.via (k_f_Assertions_start_17 ..) ?_ | refine KV.via (k_f_Assertions_start_17 ..) ?_ | refine KO.via (k_f_Reader_mandatoryVariables_26 ..) ?_ | refine KV.via (k_f_Reader_mandatoryVariables_26 ..) ?_ | refine KO.via (k_l_Reader_beginAssertion_26 ..) ?_ | refine KV.via (k_l_Reader_beginAssertion_26 ..) ?_ | assumption | exact KK.rf | refine KK.i (nCd rfl) ?_ | refine KK.j (nCd rfl) ?_ | refine KK.a (nCd rfl) ?_ | refine KK.b (nCd rfl) ?_ | refine KK.c (nCd rfl) ?_)
set_option maxRecDepth 20000 in
theorem k_f_Proof_begin_34 (g : G2) : KV cC g (f_Proof_begin_34 g) := by
  unfold f_Proof_begin_34
  repeat' (with_reducible first | refine KV.ite ?_ ?_ | refine KV.bd ?_ (fun _ _ _ => ?_) | refine KV.bind ?_ (fun _ _ => ?_) | exact KV.no | refine KV.so ?_ | assumption | exact KK.rf | refine KK.i (nCd rfl) ?_ | refine KK.j (nCd rfl) ?_ | refine KK.a (nCd rfl) ?_ | refine KK.b (nCd rfl) ?_ | refine KK.c (nCd rfl) ?_)
set_option maxRecDepth 20000 in
theorem k_f_Reader_endSymbols_26 (a1 : Int) (g : G2) : KO cC g (f_Reader_endSymbols_26 a1 g) := by
  unfold f_Reader_endSymbols_26
  repeat' (with_reducible first | refine KO.ite ?_ ?_ | refine KO.bd ?_ (fun _ _ _ => ?_) | refine KO.bind ?_ (fun _ _ => ?_) | exact KO.no | refine KO.so ?_ | refine KO.via (k_f_Proof_begin_34 ..) ?_ | refine KV.via (k_f_Proof_begin_34 ..) ?_ | refine KO.via (k_f_Reader_beginAssertion_26 ..) ?_ | refine KV.via (k_f_Reader_beginAssertion_26 ..) ?_ | refine KO.via (k_f_Reader_declare_26 ..) ?_ | refine KV.via (k_f_Reader_declare_26 ..) ?_ | refine KO.via (k_f_Statements_isHypothesis_8 ..) ?_ | refine KV.via (k_f_Statements_isHypothesis_8 ..) ?_ | assumption | exact KK.rf | refine KK.i (nCd rfl) ?_ | refine KK.j (nCd rfl) ?_ | refine KK.a (nCd rfl) ?_ | refine KK.b (nCd rfl) ?_ | refine KK.c (nCd rfl) ?_)
set_option maxRecDepth 20000 in
theorem k_b_Expressions_isSame_35_11_0 (L : Nat → Int → Int → Int → G2 → Option (Int × G2)) (i1 : Int) (i3 : Int) (i4 : Int) (g : G2) (hL : ∀ x0 x1 x2 x3 g, KO cC g (L x0 x1 x2 x3 g)) : KO cC g (b_Expressions_isSame_35_11_0 L i1 i3 i4 g) := by
  unfold b_Expressions_isSame_35_11_0
  repeat' (with_reducible first | refine KO.ite ?_ ?_ | refine KO.bd ?_ (fun _ _ _ => ?_) | refine KO.bind ?_ (fun _ _ => ?_) | exact KO.no | refine KO.so ?_ | refine KO.via (hL ..) ?_ | assumption | exact KK.rf | refine KK.i (nCd rfl) ?_ | refine KK.j (nCd rfl) ?_ | refine KK.a (nCd rfl) ?_ | refine KK.b (nCd rfl) ?_ | refine KK.c (nCd rfl) ?_)
set_option maxRecDepth 20000 in
theorem k_l_Expressions_isSame_35_11 : ∀ (n : Nat) (x0 : Nat) (x1 : Int) (x2 : Int) (x3 : Int) (g : G2), KO cC g (l_Expressions_isSame_35_11 n x0 x1 x2 x3 g) := by
  intro n
  induction n with
  | zero => intros; exact KO.no
  | succ n ih =>
    intro x0 x1 x2 x3 g
    unfold l_Expressions_isSame_35_11
    try dsimp only
    first | (split <;> (first  | exact k_b_Expressions_isSame_35_11_0 _ _ _ _ _ ih)) | (first  | exact k_b_Expressions_isSame_35_11_0 _ _ _ _ _ ih)
set_option maxRecDepth 20000 in
theorem k_f_Expressions_isSame_35_11 (a1 : Int) (a3 : Int) (g : G2) : KO cC g (f_Expressions_isSame_35_11 a1 a3 g) := by
  unfold f_Expressions_isSame_35_11
  repeat' (with_reducible first | refine KO.ite ?_ ?_ | refine KO.bd ?_ (fun _ _ _ => ?_) | refine KO.bind ?_ (fun _ _ => ?_) | exact KO.no | refine KO.so ?_ | refine KO.via (k_l_Expressions_isSame_35_11 ..) ?_ | refine KV.via (k_l_Expressions_isSame_35_11 ..) ?_ | assumption | exact KK.rf | refine KK.i (nCd rfl) ?_ | refine KK.j (nCd rfl) ?_ | refine KK.a (nCd rfl) ?_ | refine KK.b (nCd rfl) ?_ | refine KK.c (nCd rfl) ?_)
set_option maxRecDepth 20000 in
theorem k_f_Proof_finish_34 (a1 : Int) (g : G2) : KO cC g (f_Proof_finish_34 a1 g) := by
  unfold f_Proof_finish_34
  repeat' (with_reducible first | refine KO.ite ?_ ?_ | refine KO.bd ?_ (fun _ _ _ => ?_) | refine KO.bind ?_ (fun _ _ => ?_) | exact KO.no | refine KO.so ?_ | refine KO.via (k_f_Expressions_isSame_35_11 ..) ?_ | refine KV.via (k_f_Expressions_isSame_35_11 ..) ?_ | assumption | exact KK.rf | refine KK.i (nCd rfl) ?_ | refine KK.j (nCd rfl) ?_ | refine KK.a (nCd rfl) ?_ | refine KK.b (nCd rfl) ?_ | refine KK.c (nCd rfl) ?_)
set_option maxRecDepth 20000 in
theorem k_f_Reader_endProof_26 (g : G2) : KO cC g (f_Reader_endProof_26 g) := by
  unfold f_Reader_endProof_26
  repeat' (with_reducible first | refine KO.ite ?_ ?_ | refine KO.bd ?_ (fun _ _ _ => ?_) | refine KO.bind ?_ (fun _ _ => ?_) | exact KO.no | refine KO.so ?_ | refine KO.via (k_f_Proof_finish_34 ..) ?_ | refine KV.via (k_f_Proof_finish_34 ..) ?_ | refine KO.via (k_f_Reader_declare_26 ..) ?_ | refine KV.via (k_f_Reader_declare_26 ..) ?_ | assumption | exact KK.rf | refine KK.i (nCd rfl) ?_ | refine KK.j (nCd rfl) ?_ | refine KK.a (nCd rfl) ?_ | refine KK.b (nCd rfl) ?_ | refine KK.c (nCd rfl) ?_)
set_option maxRecDepth 20000 in
theorem k_f_Reader_takeKeyword_26_2 (g : G2) : KO cC g (f_Reader_takeKeyword_26_2 g) := by
  unfold f_Reader_takeKeyword_26_2
  repeat' (with_reducible first | refine KO.ite ?_ ?_ | refine KO.bd ?_ (fun _ _ _ => ?_) | refine KO.bind ?_ (fun _ _ => ?_) | exact KO.no | refine KO.so ?_ | refine KO.via (k_f_Reader_beginUnlabelled_26 ..) ?_ | refine KV.via (k_f_Reader_beginUnlabelled_26 ..) ?_ | refine KO.via (k_f_Reader_declare_26 ..) ?_ | refine KV.via (k_f_Reader_declare_26 ..) ?_ | refine KO.via (k_f_Reader_endNames_26 ..) ?_ | refine KV.via (k_f_Reader_endNames_26 ..) ?_ | refine KO.via (k_f_Reader_endProof_26 ..) ?_ | refine KV.via (k_f_Reader_endProof_26 ..) ?_ | refine KO.via (k_f_Reader_endSymbols_26 ..) ?_ | refine KV.via (k_f_Reader_endSymbols_26 ..) ?_ | refine KO.via (k_f_Reader_takeKind_26 ..) ?_ | refine KV.via (k_f_Reader_takeKind_26 ..) ?_ | refine KO.via (k_f_Text_keyword_2 ..) ?_ | refine KV.via (k_f_Text_keyword_2 ..) ?_ | assumption | exact KK.rf | refine KK.i (nCd rfl) ?_ | refine KK.j (nCd rfl) ?_ | refine KK.a (nCd rfl) ?_ | refine KK.b (nCd rfl) ?_ | refine KK.c (nCd rfl) ?_)
set_option maxRecDepth 20000 in
theorem k_b_L_read_1_0 (L : Nat → Int → Int → G2 → Option (Int × G2)) (i1 : Int) (i2 : Int) (g : G2) (hL : ∀ x0 x1 x2 g, KO cC g (L x0 x1 x2 g)) : KO cC g (b_L_read_1_0 L i1 i2 g) := by
  unfold b_L_read_1_0
  repeat' (with_reducible first | refine KO.ite ?_ ?_ | refine KO.bd ?_ (fun _ _ _ => ?_) | refine KO.bind ?_ (fun _ _ => ?_) | exact KO.no | refine KO.so ?_ | refine KO.via (k_f_Reader_takeKeyword_26_2 ..) ?_ | refine KV.via (k_f_Reader_takeKeyword_26_2 ..) ?_ | refine KO.via (k_f_Reader_takeName_26_2 ..) ?_ | refine KV.via (k_f_Reader_takeName_26_2 ..) ?_ | refine KO.via (k_f_Text_advance_2 ..) ?_ | refine KV.via (k_f_Text_advance_2 ..) ?_ | refine KO.via (hL ..) ?_ | assumption | exact KK.rf | refine KK.i (nCd rfl) ?_ | refine KK.j (nCd rfl) ?_ | refine KK.a (nCd rfl) ?_ | refine KK.b (nCd rfl) ?_ | refine KK.c (nCd rfl) ?_)
set_option maxRecDepth 20000 in
theorem k_b_L_read_1_1 (L : Nat → Int → Int → G2 → Option (Int × G2)) (i1 : Int) (i2 : Int) (g : G2) (hL : ∀ x0 x1 x2 g, KO cC g (L x0 x1 x2 g)) : KO cC g (b_L_read_1_1 L i1 i2 g) := by
  unfold b_L_read_1_1
  repeat' (with_reducible first | refine KO.ite ?_ ?_ | refine KO.bd ?_ (fun _ _ _ => ?_) | refine KO.bind ?_ (fun _ _ => ?_) | exact KO.no | refine KO.so ?_ | refine KO.via (k_f_Reader_isInside_26 ..) ?_ | refine KV.via (k_f_Reader_isInside_26 ..) ?_ | refine KO.via (hL ..) ?_ | assumption | exact KK.rf | refine KK.i (nCd rfl) ?_ | refine KK.j (nCd rfl) ?_ | refine KK.a (nCd rfl) ?_ | refine KK.b (nCd rfl) ?_ | refine KK.c (nCd rfl) ?_)
set_option maxRecDepth 20000 in
theorem k_b_L_read_1_2 (L : Nat → Int → Int → G2 → Option (Int × G2)) (i1 : Int) (i2 : Int) (g : G2) (hL : ∀ x0 x1 x2 g, KO cC g (L x0 x1 x2 g)) : KO cC g (b_L_read_1_2 L i1 i2 g) := by
  unfold b_L_read_1_2
  repeat' (with_reducible first | refine KO.ite ?_ ?_ | refine KO.bd ?_ (fun _ _ _ => ?_) | refine KO.bind ?_ (fun _ _ => ?_) | exact KO.no | refine KO.so ?_ | refine KO.via (hL ..) ?_ | assumption | exact KK.rf | refine KK.i (nCd rfl) ?_ | refine KK.j (nCd rfl) ?_ | refine KK.a (nCd rfl) ?_ | refine KK.b (nCd rfl) ?_ | refine KK.c (nCd rfl) ?_)
set_option maxRecDepth 20000 in
theorem k_b_L_read_1_3 (L : Nat → Int → Int → G2 → Option (Int × G2)) (i1 : Int) (i2 : Int) (g : G2) (hL : ∀ x0 x1 x2 g, KO cC g (L x0 x1 x2 g)) : KO cC g (b_L_read_1_3 L i1 i2 g) := by
  unfold b_L_read_1_3
  repeat' (with_reducible first | refine KO.ite ?_ ?_ | refine KO.bd ?_ (fun _ _ _ => ?_) | refine KO.bind ?_ (fun _ _ => ?_) | exact KO.no | refine KO.so ?_ | refine KO.via (hL ..) ?_ | assumption | exact KK.rf | refine KK.i (nCd rfl) ?_ | refine KK.j (nCd rfl) ?_ | refine KK.a (nCd rfl) ?_ | refine KK.b (nCd rfl) ?_ | refine KK.c (nCd rfl) ?_)
set_option maxRecDepth 20000 in
theorem k_l_L_read_1 : ∀ (n : Nat) (x0 : Nat) (x1 : Int) (x2 : Int) (g : G2), KO cC g (l_L_read_1 n x0 x1 x2 g) := by
  intro n
  induction n with
  | zero => intros; exact KO.no
  | succ n ih =>
    intro x0 x1 x2 g
    unfold l_L_read_1
    try dsimp only
    first | (split <;> (first  | exact k_b_L_read_1_0 _ _ _ _ ih | exact k_b_L_read_1_1 _ _ _ _ ih | exact k_b_L_read_1_2 _ _ _ _ ih | exact k_b_L_read_1_3 _ _ _ _ ih)) | (first  | exact k_b_L_read_1_0 _ _ _ _ ih | exact k_b_L_read_1_1 _ _ _ _ ih | exact k_b_L_read_1_2 _ _ _ _ ih | exact k_b_L_read_1_3 _ _ _ _ ih)
set_option maxRecDepth 20000 in
theorem k_f_L_read_1 (g : G2) : KO cC g (f_L_read_1 g) := by
  unfold f_L_read_1
  repeat' (with_reducible first | refine KO.ite ?_ ?_ | refine KO.bd ?_ (fun _ _ _ => ?_) | refine KO.bind ?_ (fun _ _ => ?_) | exact KO.no | refine KO.so ?_ | refine KO.via (k_f_Reader_begin_26 ..) ?_ | refine KV.via (k_f_Reader_begin_26 ..) ?_ | refine KO.via (k_f_Text_rewind_2 ..) ?_ | refine KV.via (k_f_Text_rewind_2 ..) ?_ | refine KO.via (k_l_L_read_1 ..) ?_ | refine KV.via (k_l_L_read_1 ..) ?_ | assumption | exact KK.rf | refine KK.i (nCd rfl) ?_ | refine KK.j (nCd rfl) ?_ | refine KK.a (nCd rfl) ?_ | refine KK.b (nCd rfl) ?_ | refine KK.c (nCd rfl) ?_)
set_option maxRecDepth 20000 in
theorem k_f_L_place_1 (g : G2) : KO cC g (f_L_place_1 g) := by
  unfold f_L_place_1
  repeat' (with_reducible first | refine KO.ite ?_ ?_ | refine KO.bd ?_ (fun _ _ _ => ?_) | refine KO.bind ?_ (fun _ _ => ?_) | exact KO.no | refine KO.so ?_ | assumption | exact KK.rf | refine KK.i (nCd rfl) ?_ | refine KK.j (nCd rfl) ?_ | refine KK.a (nCd rfl) ?_ | refine KK.b (nCd rfl) ?_ | refine KK.c (nCd rfl) ?_)
set_option maxRecDepth 20000 in
theorem k_b_Statements_countKind_8_0 (L : Nat → Int → Int → Int → G2 → Option (Int × G2)) (i1 : Int) (i2 : Int) (i3 : Int) (g : G2) (hL : ∀ x0 x1 x2 x3 g, KO cC g (L x0 x1 x2 x3 g)) : KO cC g (b_Statements_countKind_8_0 L i1 i2 i3 g) := by
  unfold b_Statements_countKind_8_0
  repeat' (with_reducible first | refine KO.ite ?_ ?_ | refine KO.bd ?_ (fun _ _ _ => ?_) | refine KO.bind ?_ (fun _ _ => ?_) | exact KO.no | refine KO.so ?_ | refine KO.via (hL ..) ?_ | assumption | exact KK.rf | refine KK.i (nCd rfl) ?_ | refine KK.j (nCd rfl) ?_ | refine KK.a (nCd rfl) ?_ | refine KK.b (nCd rfl) ?_ | refine KK.c (nCd rfl) ?_)
set_option maxRecDepth 20000 in
theorem k_l_Statements_countKind_8 : ∀ (n : Nat) (x0 : Nat) (x1 : Int) (x2 : Int) (x3 : Int) (g : G2), KO cC g (l_Statements_countKind_8 n x0 x1 x2 x3 g) := by
  intro n
  induction n with
  | zero => intros; exact KO.no
  | succ n ih =>
    intro x0 x1 x2 x3 g
    unfold l_Statements_countKind_8
    try dsimp only
    first | (split <;> (first  | exact k_b_Statements_countKind_8_0 _ _ _ _ _ ih)) | (first  | exact k_b_Statements_countKind_8_0 _ _ _ _ _ ih)
set_option maxRecDepth 20000 in
theorem k_f_Statements_countKind_8 (a1 : Int) (g : G2) : KO cC g (f_Statements_countKind_8 a1 g) := by
  unfold f_Statements_countKind_8
  repeat' (with_reducible first | refine KO.ite ?_ ?_ | refine KO.bd ?_ (fun _ _ _ => ?_) | refine KO.bind ?_ (fun _ _ => ?_) | exact KO.no | refine KO.so ?_ | refine KO.via (k_l_Statements_countKind_8 ..) ?_ | refine KV.via (k_l_Statements_countKind_8 ..) ?_ | assumption | exact KK.rf | refine KK.i (nCd rfl) ?_ | refine KK.j (nCd rfl) ?_ | refine KK.a (nCd rfl) ?_ | refine KK.b (nCd rfl) ?_ | refine KK.c (nCd rfl) ?_)
set_option maxRecDepth 20000 in
theorem k_b_Assertions_countIncomplete_17_0 (L : Nat → Int → Int → G2 → Option (Int × G2)) (i1 : Int) (i2 : Int) (g : G2) (hL : ∀ x0 x1 x2 g, KO cC g (L x0 x1 x2 g)) : KO cC g (b_Assertions_countIncomplete_17_0 L i1 i2 g) := by
  unfold b_Assertions_countIncomplete_17_0
  repeat' (with_reducible first | refine KO.ite ?_ ?_ | refine KO.bd ?_ (fun _ _ _ => ?_) | refine KO.bind ?_ (fun _ _ => ?_) | exact KO.no | refine KO.so ?_ | refine KO.via (hL ..) ?_ | assumption | exact KK.rf | refine KK.i (nCd rfl) ?_ | refine KK.j (nCd rfl) ?_ | refine KK.a (nCd rfl) ?_ | refine KK.b (nCd rfl) ?_ | refine KK.c (nCd rfl) ?_)
set_option maxRecDepth 20000 in
theorem k_l_Assertions_countIncomplete_17 : ∀ (n : Nat) (x0 : Nat) (x1 : Int) (x2 : Int) (g : G2), KO cC g (l_Assertions_countIncomplete_17 n x0 x1 x2 g) := by
  intro n
  induction n with
  | zero => intros; exact KO.no
  | succ n ih =>
    intro x0 x1 x2 g
    unfold l_Assertions_countIncomplete_17
    try dsimp only
    first | (split <;> (first  | exact k_b_Assertions_countIncomplete_17_0 _ _ _ _ ih)) | (first  | exact k_b_Assertions_countIncomplete_17_0 _ _ _ _ ih)
set_option maxRecDepth 20000 in
theorem k_f_Assertions_countIncomplete_17 (g : G2) : KO cC g (f_Assertions_countIncomplete_17 g) := by
  unfold f_Assertions_countIncomplete_17
  repeat' (with_reducible first | refine KO.ite ?_ ?_ | refine KO.bd ?_ (fun _ _ _ => ?_) | refine KO.bind ?_ (fun _ _ => ?_) | exact KO.no | refine KO.so ?_ | refine KO.via (k_l_Assertions_countIncomplete_17 ..) ?_ | refine KV.via (k_l_Assertions_countIncomplete_17 ..) ?_ | assumption | exact KK.rf | refine KK.i (nCd rfl) ?_ | refine KK.j (nCd rfl) ?_ | refine KK.a (nCd rfl) ?_ | refine KK.b (nCd rfl) ?_ | refine KK.c (nCd rfl) ?_)
set_option maxRecDepth 20000 in
theorem k_f_L_count_1 (a1 : Int) (g : G2) : KO cC g (f_L_count_1 a1 g) := by
  unfold f_L_count_1
  repeat' (with_reducible first | refine KO.ite ?_ ?_ | refine KO.bd ?_ (fun _ _ _ => ?_) | refine KO.bind ?_ (fun _ _ => ?_) | exact KO.no | refine KO.so ?_ | refine KO.via (k_f_Assertions_countIncomplete_17 ..) ?_ | refine KV.via (k_f_Assertions_countIncomplete_17 ..) ?_ | refine KO.via (k_f_J_bitCount ..) ?_ | refine KV.via (k_f_J_bitCount ..) ?_ | refine KO.via (k_f_Statements_countKind_8 ..) ?_ | refine KV.via (k_f_Statements_countKind_8 ..) ?_ | assumption | exact KK.rf | refine KK.i (nCd rfl) ?_ | refine KK.j (nCd rfl) ?_ | refine KK.a (nCd rfl) ?_ | refine KK.b (nCd rfl) ?_ | refine KK.c (nCd rfl) ?_)
set_option maxRecDepth 20000 in
theorem k_f_Assertions_has_17 (a1 : Int) (g : G2) : KO cC g (f_Assertions_has_17 a1 g) := by
  unfold f_Assertions_has_17
  repeat' (with_reducible first | refine KO.ite ?_ ?_ | refine KO.bd ?_ (fun _ _ _ => ?_) | refine KO.bind ?_ (fun _ _ => ?_) | exact KO.no | refine KO.so ?_ | assumption | exact KK.rf | refine KK.i (nCd rfl) ?_ | refine KK.j (nCd rfl) ?_ | refine KK.a (nCd rfl) ?_ | refine KK.b (nCd rfl) ?_ | refine KK.c (nCd rfl) ?_)
set_option maxRecDepth 20000 in
theorem k_f_L_label_1 (a1 : Int) (g : G2) : KO cC g (f_L_label_1 a1 g) := by
  unfold f_L_label_1
  repeat' (with_reducible first | refine KO.ite ?_ ?_ | refine KO.bd ?_ (fun _ _ _ => ?_) | refine KO.bind ?_ (fun _ _ => ?_) | exact KO.no | refine KO.so ?_ | refine KO.via (k_f_Assertions_has_17 ..) ?_ | refine KV.via (k_f_Assertions_has_17 ..) ?_ | assumption | exact KK.rf | refine KK.i (nCd rfl) ?_ | refine KK.j (nCd rfl) ?_ | refine KK.a (nCd rfl) ?_ | refine KK.b (nCd rfl) ?_ | refine KK.c (nCd rfl) ?_)
set_option maxRecDepth 20000 in
theorem k_f_L_symbol_1 (a1 : Int) (a2 : Int) (g : G2) : KO cC g (f_L_symbol_1 a1 a2 g) := by
  unfold f_L_symbol_1
  repeat' (with_reducible first | refine KO.ite ?_ ?_ | refine KO.bd ?_ (fun _ _ _ => ?_) | refine KO.bind ?_ (fun _ _ => ?_) | exact KO.no | refine KO.so ?_ | refine KO.via (k_f_Assertions_has_17 ..) ?_ | refine KV.via (k_f_Assertions_has_17 ..) ?_ | refine KO.via (k_f_Expressions_symbolAt_11 ..) ?_ | refine KV.via (k_f_Expressions_symbolAt_11 ..) ?_ | assumption | exact KK.rf | refine KK.i (nCd rfl) ?_ | refine KK.j (nCd rfl) ?_ | refine KK.a (nCd rfl) ?_ | refine KK.b (nCd rfl) ?_ | refine KK.c (nCd rfl) ?_)
set_option maxRecDepth 20000 in
theorem k_b_Statements_findMandatory_8_0 (L : Nat → Int → Int → Int → Int → G2 → Option (Int × G2)) (i1 : Int) (i2 : Int) (i3 : Int) (i4 : Int) (g : G2) (hL : ∀ x0 x1 x2 x3 x4 g, KO cC g (L x0 x1 x2 x3 x4 g)) : KO cC g (b_Statements_findMandatory_8_0 L i1 i2 i3 i4 g) := by
  unfold b_Statements_findMandatory_8_0
  repeat' (with_reducible first | refine KO.ite ?_ ?_ | refine KO.bd ?_ (fun _ _ _ => ?_) | refine KO.bind ?_ (fun _ _ => ?_) | exact KO.no | refine KO.so ?_ | refine KO.via (k_f_Statements_isMandatory_8 ..) ?_ | refine KV.via (k_f_Statements_isMandatory_8 ..) ?_ | refine KO.via (hL ..) ?_ | assumption | exact KK.rf | refine KK.i (nCd rfl) ?_ | refine KK.j (nCd rfl) ?_ | refine KK.a (nCd rfl) ?_ | refine KK.b (nCd rfl) ?_ | refine KK.c (nCd rfl) ?_)
set_option maxRecDepth 20000 in
theorem k_l_Statements_findMandatory_8 : ∀ (n : Nat) (x0 : Nat) (x1 : Int) (x2 : Int) (x3 : Int) (x4 : Int) (g : G2), KO cC g (l_Statements_findMandatory_8 n x0 x1 x2 x3 x4 g) := by
  intro n
  induction n with
  | zero => intros; exact KO.no
  | succ n ih =>
    intro x0 x1 x2 x3 x4 g
    unfold l_Statements_findMandatory_8
    try dsimp only
    first | (split <;> (first  | exact k_b_Statements_findMandatory_8_0 _ _ _ _ _ _ ih)) | (first  | exact k_b_Statements_findMandatory_8_0 _ _ _ _ _ _ ih)
set_option maxRecDepth 20000 in
theorem k_f_Statements_findMandatory_8 (a1 : Int) (a2 : Int) (g : G2) : KO cC g (f_Statements_findMandatory_8 a1 a2 g) := by
  unfold f_Statements_findMandatory_8
  repeat' (with_reducible first | refine KO.ite ?_ ?_ | refine KO.bd ?_ (fun _ _ _ => ?_) | refine KO.bind ?_ (fun _ _ => ?_) | exact KO.no | refine KO.so ?_ | refine KO.via (k_l_Statements_findMandatory_8 ..) ?_ | refine KV.via (k_l_Statements_findMandatory_8 ..) ?_ | assumption | exact KK.rf | refine KK.i (nCd rfl) ?_ | refine KK.j (nCd rfl) ?_ | refine KK.a (nCd rfl) ?_ | refine KK.b (nCd rfl) ?_ | refine KK.c (nCd rfl) ?_)
set_option maxRecDepth 20000 in
theorem k_f_L_hypothesis_1 (a1 : Int) (a2 : Int) (g : G2) : KO cC g (f_L_hypothesis_1 a1 a2 g) := by
  unfold f_L_hypothesis_1
  repeat' (with_reducible first | refine KO.ite ?_ ?_ | refine KO.bd ?_ (fun _ _ _ => ?_) | refine KO.bind ?_ (fun _ _ => ?_) | exact KO.no | refine KO.so ?_ | refine KO.via (k_f_Assertions_has_17 ..) ?_ | refine KV.via (k_f_Assertions_has_17 ..) ?_ | refine KO.via (k_f_Statements_findMandatory_8 ..) ?_ | refine KV.via (k_f_Statements_findMandatory_8 ..) ?_ | assumption | exact KK.rf | refine KK.i (nCd rfl) ?_ | refine KK.j (nCd rfl) ?_ | refine KK.a (nCd rfl) ?_ | refine KK.b (nCd rfl) ?_ | refine KK.c (nCd rfl) ?_)
set_option maxRecDepth 20000 in
theorem k_f_L_pairs_1 (a1 : Int) (g : G2) : KO cC g (f_L_pairs_1 a1 g) := by
  unfold f_L_pairs_1
  repeat' (with_reducible first | refine KO.ite ?_ ?_ | refine KO.bd ?_ (fun _ _ _ => ?_) | refine KO.bind ?_ (fun _ _ => ?_) | exact KO.no | refine KO.so ?_ | refine KO.via (k_f_Assertions_has_17 ..) ?_ | refine KV.via (k_f_Assertions_has_17 ..) ?_ | assumption | exact KK.rf | refine KK.i (nCd rfl) ?_ | refine KK.j (nCd rfl) ?_ | refine KK.a (nCd rfl) ?_ | refine KK.b (nCd rfl) ?_ | refine KK.c (nCd rfl) ?_)
set_option maxRecDepth 20000 in
theorem k_b_L_apart_1_0 (L : Nat → Int → Int64 → Int64 → Int → G2 → Option (Int × G2)) (i1 : Int) (l2 : Int64) (l4 : Int64) (i6 : Int) (g : G2) (hL : ∀ x0 x1 x2 x3 x4 g, KO cC g (L x0 x1 x2 x3 x4 g)) : KO cC g (b_L_apart_1_0 L i1 l2 l4 i6 g) := by
  unfold b_L_apart_1_0
  repeat' (with_reducible first | refine KO.ite ?_ ?_ | refine KO.bd ?_ (fun _ _ _ => ?_) | refine KO.bind ?_ (fun _ _ => ?_) | exact KO.no | refine KO.so ?_ | refine KO.via (k_f_Assertions_firstOfPair_17 ..) ?_ | refine KV.via (k_f_Assertions_firstOfPair_17 ..) ?_ | refine KO.via (k_f_Assertions_secondOfPair_17 ..) ?_ | refine KV.via (k_f_Assertions_secondOfPair_17 ..) ?_ | refine KO.via (hL ..) ?_ | assumption | exact KK.rf | refine KK.i (nCd rfl) ?_ | refine KK.j (nCd rfl) ?_ | refine KK.a (nCd rfl) ?_ | refine KK.b (nCd rfl) ?_ | refine KK.c (nCd rfl) ?_)
set_option maxRecDepth 20000 in
theorem k_l_L_apart_1 : ∀ (n : Nat) (x0 : Nat) (x1 : Int) (x2 : Int64) (x3 : Int64) (x4 : Int) (g : G2), KO cC g (l_L_apart_1 n x0 x1 x2 x3 x4 g) := by
  intro n
  induction n with
  | zero => intros; exact KO.no
  | succ n ih =>
    intro x0 x1 x2 x3 x4 g
    unfold l_L_apart_1
    try dsimp only
    first | (split <;> (first  | exact k_b_L_apart_1_0 _ _ _ _ _ _ ih)) | (first  | exact k_b_L_apart_1_0 _ _ _ _ _ _ ih)
set_option maxRecDepth 20000 in
theorem k_f_L_apart_1 (a1 : Int) (a2 : Int64) (a4 : Int64) (g : G2) : KO cC g (f_L_apart_1 a1 a2 a4 g) := by
  unfold f_L_apart_1
  repeat' (with_reducible first | refine KO.ite ?_ ?_ | refine KO.bd ?_ (fun _ _ _ => ?_) | refine KO.bind ?_ (fun _ _ => ?_) | exact KO.no | refine KO.so ?_ | refine KO.via (k_f_Assertions_has_17 ..) ?_ | refine KV.via (k_f_Assertions_has_17 ..) ?_ | refine KO.via (k_l_L_apart_1 ..) ?_ | refine KV.via (k_l_L_apart_1 ..) ?_ | assumption | exact KK.rf | refine KK.i (nCd rfl) ?_ | refine KK.j (nCd rfl) ?_ | refine KK.a (nCd rfl) ?_ | refine KK.b (nCd rfl) ?_ | refine KK.c (nCd rfl) ?_)
set_option maxRecDepth 20000 in
theorem k_f_L_steps_1 (a1 : Int) (g : G2) : KO cC g (f_L_steps_1 a1 g) := by
  unfold f_L_steps_1
  repeat' (with_reducible first | refine KO.ite ?_ ?_ | refine KO.bd ?_ (fun _ _ _ => ?_) | refine KO.bind ?_ (fun _ _ => ?_) | exact KO.no | refine KO.so ?_ | refine KO.via (k_f_Assertions_has_17 ..) ?_ | refine KV.via (k_f_Assertions_has_17 ..) ?_ | assumption | exact KK.rf | refine KK.i (nCd rfl) ?_ | refine KK.j (nCd rfl) ?_ | refine KK.a (nCd rfl) ?_ | refine KK.b (nCd rfl) ?_ | refine KK.c (nCd rfl) ?_)
set_option maxRecDepth 20000 in
theorem k_f_L_depth_1 (a1 : Int) (g : G2) : KO cC g (f_L_depth_1 a1 g) := by
  unfold f_L_depth_1
  repeat' (with_reducible first | refine KO.ite ?_ ?_ | refine KO.bd ?_ (fun _ _ _ => ?_) | refine KO.bind ?_ (fun _ _ => ?_) | exact KO.no | refine KO.so ?_ | refine KO.via (k_f_Assertions_has_17 ..) ?_ | refine KV.via (k_f_Assertions_has_17 ..) ?_ | assumption | exact KK.rf | refine KK.i (nCd rfl) ?_ | refine KK.j (nCd rfl) ?_ | refine KK.a (nCd rfl) ?_ | refine KK.b (nCd rfl) ?_ | refine KK.c (nCd rfl) ?_)
set_option maxRecDepth 20000 in
theorem k_f_Assertions_countUses_17 (a1 : Int) (a2 : Int) (g : G2) : KO cC g (f_Assertions_countUses_17 a1 a2 g) := by
  unfold f_Assertions_countUses_17
  repeat' (with_reducible first | refine KO.ite ?_ ?_ | refine KO.bd ?_ (fun _ _ _ => ?_) | refine KO.bind ?_ (fun _ _ => ?_) | exact KO.no | refine KO.so ?_ | assumption | exact KK.rf | refine KK.i (nCd rfl) ?_ | refine KK.j (nCd rfl) ?_ | refine KK.a (nCd rfl) ?_ | refine KK.b (nCd rfl) ?_ | refine KK.c (nCd rfl) ?_)
set_option maxRecDepth 20000 in
theorem k_f_L_uses_1 (a1 : Int) (a2 : Int) (g : G2) : KO cC g (f_L_uses_1 a1 a2 g) := by
  unfold f_L_uses_1
  repeat' (with_reducible first | refine KO.ite ?_ ?_ | refine KO.bd ?_ (fun _ _ _ => ?_) | refine KO.bind ?_ (fun _ _ => ?_) | exact KO.no | refine KO.so ?_ | refine KO.via (k_f_Assertions_countUses_17 ..) ?_ | refine KV.via (k_f_Assertions_countUses_17 ..) ?_ | refine KO.via (k_f_Assertions_has_17 ..) ?_ | refine KV.via (k_f_Assertions_has_17 ..) ?_ | assumption | exact KK.rf | refine KK.i (nCd rfl) ?_ | refine KK.j (nCd rfl) ?_ | refine KK.a (nCd rfl) ?_ | refine KK.b (nCd rfl) ?_ | refine KK.c (nCd rfl) ?_)
set_option maxRecDepth 20000 in
theorem k_f_L_proved_1 (a1 : Int) (g : G2) : KO cC g (f_L_proved_1 a1 g) := by
  unfold f_L_proved_1
  repeat' (with_reducible first | refine KO.ite ?_ ?_ | refine KO.bd ?_ (fun _ _ _ => ?_) | refine KO.bind ?_ (fun _ _ => ?_) | exact KO.no | refine KO.so ?_ | refine KO.via (k_f_Assertions_has_17 ..) ?_ | refine KV.via (k_f_Assertions_has_17 ..) ?_ | assumption | exact KK.rf | refine KK.i (nCd rfl) ?_ | refine KK.j (nCd rfl) ?_ | refine KK.a (nCd rfl) ?_ | refine KK.b (nCd rfl) ?_ | refine KK.c (nCd rfl) ?_)
set_option maxRecDepth 20000 in
theorem k_b_M_feed_50_0 (L : Nat → Int64 → Int → Int → G2 → Option (Int × G2)) (l1 : Int64) (i3 : Int) (i4 : Int) (g : G2) (hL : ∀ x0 x1 x2 x3 g, KO cM g (L x0 x1 x2 x3 g)) : KO cM g (b_M_feed_50_0 L l1 i3 i4 g) := by
  unfold b_M_feed_50_0
  repeat' (with_reducible first | refine KO.ite ?_ ?_ | refine KO.bd ?_ (fun _ _ _ => ?_) | refine KO.bind ?_ (fun _ _ => ?_) | exact KO.no | refine KO.so ?_ | refine KO.via (hL ..) ?_ | assumption | exact KK.rf | refine KK.i (nMd rfl) ?_ | refine KK.j (nMd rfl) ?_ | refine KK.a (nMd rfl) ?_ | refine KK.b (nMd rfl) ?_ | refine KK.c (nMd rfl) ?_)
set_option maxRecDepth 20000 in
theorem k_b_M_feed_50_1 (L : Nat → Int64 → Int → Int → G2 → Option (Int × G2)) (l1 : Int64) (i3 : Int) (i4 : Int) (g : G2) (hL : ∀ x0 x1 x2 x3 g, KO cM g (L x0 x1 x2 x3 g)) : KO cM g (b_M_feed_50_1 L l1 i3 i4 g) := by
  unfold b_M_feed_50_1
  repeat' (with_reducible first | refine KO.ite ?_ ?_ | refine KO.bd ?_ (fun _ _ _ => ?_) | refine KO.bind ?_ (fun _ _ => ?_) | exact KO.no | refine KO.so ?_ | refine KO.via (hL ..) ?_ | assumption | exact KK.rf | refine KK.i (nMd rfl) ?_ | refine KK.j (nMd rfl) ?_ | refine KK.a (nMd rfl) ?_ | refine KK.b (nMd rfl) ?_ | refine KK.c (nMd rfl) ?_)
set_option maxRecDepth 20000 in
theorem k_l_M_feed_50 : ∀ (n : Nat) (x0 : Nat) (x1 : Int64) (x2 : Int) (x3 : Int) (g : G2), KO cM g (l_M_feed_50 n x0 x1 x2 x3 g) := by
  intro n
  induction n with
  | zero => intros; exact KO.no
  | succ n ih =>
    intro x0 x1 x2 x3 g
    unfold l_M_feed_50
    try dsimp only
    first | (split <;> (first  | exact k_b_M_feed_50_0 _ _ _ _ _ ih | exact k_b_M_feed_50_1 _ _ _ _ _ ih)) | (first  | exact k_b_M_feed_50_0 _ _ _ _ _ ih | exact k_b_M_feed_50_1 _ _ _ _ _ ih)
set_option maxRecDepth 20000 in
theorem k_f_M_feed_50 (a1 : Int64) (a3 : Int) (g : G2) : KO cM g (f_M_feed_50 a1 a3 g) := by
  unfold f_M_feed_50
  repeat' (with_reducible first | refine KO.ite ?_ ?_ | refine KO.bd ?_ (fun _ _ _ => ?_) | refine KO.bind ?_ (fun _ _ => ?_) | exact KO.no | refine KO.so ?_ | refine KO.via (k_l_M_feed_50 ..) ?_ | refine KV.via (k_l_M_feed_50 ..) ?_ | assumption | exact KK.rf | refine KK.i (nMd rfl) ?_ | refine KK.j (nMd rfl) ?_ | refine KK.a (nMd rfl) ?_ | refine KK.b (nMd rfl) ?_ | refine KK.c (nMd rfl) ?_)
set_option maxRecDepth 20000 in
theorem k_f_M_clear_50 (g : G2) : KO cM g (f_M_clear_50 g) := by
  unfold f_M_clear_50
  repeat' (with_reducible first | refine KO.ite ?_ ?_ | refine KO.bd ?_ (fun _ _ _ => ?_) | refine KO.bind ?_ (fun _ _ => ?_) | exact KO.no | refine KO.so ?_ | assumption | exact KK.rf | refine KK.i (nMd rfl) ?_ | refine KK.j (nMd rfl) ?_ | refine KK.a (nMd rfl) ?_ | refine KK.b (nMd rfl) ?_ | refine KK.c (nMd rfl) ?_)
set_option maxRecDepth 20000 in
theorem k_b_M_findWords_50_0 (L : Nat → Int → Int → G2 → Option (G2)) (i1 : Int) (i2 : Int) (g : G2) (hL : ∀ x0 x1 x2 g, KV cM g (L x0 x1 x2 g)) : KV cM g (b_M_findWords_50_0 L i1 i2 g) := by
  unfold b_M_findWords_50_0
  repeat' (with_reducible first | refine KV.ite ?_ ?_ | refine KV.bd ?_ (fun _ _ _ => ?_) | refine KV.bind ?_ (fun _ _ => ?_) | exact KV.no | refine KV.so ?_ | refine KV.via (hL ..) ?_ | assumption | exact KK.rf | refine KK.i (nMd rfl) ?_ | refine KK.j (nMd rfl) ?_ | refine KK.a (nMd rfl) ?_ | refine KK.b (nMd rfl) ?_ | refine KK.c (nMd rfl) ?_)
set_option maxRecDepth 20000 in
theorem k_l_M_findWords_50 : ∀ (n : Nat) (x0 : Nat) (x1 : Int) (x2 : Int) (g : G2), KV cM g (l_M_findWords_50 n x0 x1 x2 g) := by
  intro n
  induction n with
  | zero => intros; exact KV.no
  | succ n ih =>
    intro x0 x1 x2 g
    unfold l_M_findWords_50
    try dsimp only
    first | (split <;> (first  | exact k_b_M_findWords_50_0 _ _ _ _ ih)) | (first  | exact k_b_M_findWords_50_0 _ _ _ _ ih)
set_option maxRecDepth 20000 in
theorem k_f_M_findWords_50 (g : G2) : KV cM g (f_M_findWords_50 g) := by
  unfold f_M_findWords_50
  repeat' (with_reducible first | refine KV.ite ?_ ?_ | refine KV.bd ?_ (fun _ _ _ => ?_) | refine KV.bind ?_ (fun _ _ => ?_) | exact KV.no | refine KV.so ?_ | refine KO.via (k_l_M_findWords_50 ..) ?_ | refine KV.via (k_l_M_findWords_50 ..) ?_ | assumption | exact KK.rf | refine KK.i (nMd rfl) ?_ | refine KK.j (nMd rfl) ?_ | refine KK.a (nMd rfl) ?_ | refine KK.b (nMd rfl) ?_ | refine KK.c (nMd rfl) ?_)
set_option maxRecDepth 20000 in
theorem k_f_M_letter_50 (a1 : Int) (a2 : Int) (g : G2) : KO cM g (f_M_letter_50 a1 a2 g) := by
  unfold f_M_letter_50
  repeat' (with_reducible first | refine KO.ite ?_ ?_ | refine KO.bd ?_ (fun _ _ _ => ?_) | refine KO.bind ?_ (fun _ _ => ?_) | exact KO.no | refine KO.so ?_ | assumption | exact KK.rf | refine KK.i (nMd rfl) ?_ | refine KK.j (nMd rfl) ?_ | refine KK.a (nMd rfl) ?_ | refine KK.b (nMd rfl) ?_ | refine KK.c (nMd rfl) ?_)
set_option maxRecDepth 20000 in
theorem k_f_M_isTwo_50 (a1 : Int) (a2 : Int) (a3 : Int) (g : G2) : KO cM g (f_M_isTwo_50 a1 a2 a3 g) := by
  unfold f_M_isTwo_50
  repeat' (with_reducible first | refine KO.ite ?_ ?_ | refine KO.bd ?_ (fun _ _ _ => ?_) | refine KO.bind ?_ (fun _ _ => ?_) | exact KO.no | refine KO.so ?_ | refine KO.via (k_f_M_letter_50 ..) ?_ | refine KV.via (k_f_M_letter_50 ..) ?_ | assumption | exact KK.rf | refine KK.i (nMd rfl) ?_ | refine KK.j (nMd rfl) ?_ | refine KK.a (nMd rfl) ?_ | refine KK.b (nMd rfl) ?_ | refine KK.c (nMd rfl) ?_)
set_option maxRecDepth 20000 in
theorem k_f_M_fail_50 (a1 : Int) (a2 : Int) (g : G2) : KV cM g (f_M_fail_50 a1 a2 g) := by
  unfold f_M_fail_50
  repeat' (with_reducible first | refine KV.ite ?_ ?_ | refine KV.bd ?_ (fun _ _ _ => ?_) | refine KV.bind ?_ (fun _ _ => ?_) | exact KV.no | refine KV.so ?_ | assumption | exact KK.rf | refine KK.i (nMd rfl) ?_ | refine KK.j (nMd rfl) ?_ | refine KK.a (nMd rfl) ?_ | refine KK.b (nMd rfl) ?_ | refine KK.c (nMd rfl) ?_)
set_option maxRecDepth 20000 in
theorem k_b_M_come_50_0 (L : Nat → G2 → Option (Int × G2)) (g : G2) (hL : ∀ x0 g, KO cM g (L x0 g)) : KO cM g (b_M_come_50_0 L g) := by
  unfold b_M_come_50_0
  repeat' (with_reducible first | refine KO.ite ?_ ?_ | refine KO.bd ?_ (fun _ _ _ => ?_) | refine KO.bind ?_ (fun _ _ => ?_) | exact KO.no | refine KO.so ?_ | refine KO.via (k_f_M_isTwo_50 ..) ?_ | refine KV.via (k_f_M_isTwo_50 ..) ?_ | refine KO.via (hL ..) ?_ | assumption | exact KK.rf | refine KK.i (nMd rfl) ?_ | refine KK.j (nMd rfl) ?_ | refine KK.a (nMd rfl) ?_ | refine KK.b (nMd rfl) ?_ | refine KK.c (nMd rfl) ?_)
set_option maxRecDepth 20000 in
theorem k_b_M_come_50_1 (L : Nat → G2 → Option (Int × G2)) (g : G2) (hL : ∀ x0 g, KO cM g (L x0 g)) : KO cM g (b_M_come_50_1 L g) := by
  unfold b_M_come_50_1
  repeat' (with_reducible first | refine KO.ite ?_ ?_ | refine KO.bd ?_ (fun _ _ _ => ?_) | refine KO.bind ?_ (fun _ _ => ?_) | exact KO.no | refine KO.so ?_ | refine KO.via (k_f_M_isTwo_50 ..) ?_ | refine KV.via (k_f_M_isTwo_50 ..) ?_ | refine KO.via (hL ..) ?_ | assumption | exact KK.rf | refine KK.i (nMd rfl) ?_ | refine KK.j (nMd rfl) ?_ | refine KK.a (nMd rfl) ?_ | refine KK.b (nMd rfl) ?_ | refine KK.c (nMd rfl) ?_)
set_option maxRecDepth 20000 in
theorem k_b_M_come_50_2 (L : Nat → G2 → Option (Int × G2)) (g : G2) (hL : ∀ x0 g, KO cM g (L x0 g)) : KO cM g (b_M_come_50_2 L g) := by
  unfold b_M_come_50_2
  repeat' (with_reducible first | refine KO.ite ?_ ?_ | refine KO.bd ?_ (fun _ _ _ => ?_) | refine KO.bind ?_ (fun _ _ => ?_) | exact KO.no | refine KO.so ?_ | refine KO.via (k_f_M_fail_50 ..) ?_ | refine KV.via (k_f_M_fail_50 ..) ?_ | refine KO.via (hL ..) ?_ | assumption | exact KK.rf | refine KK.i (nMd rfl) ?_ | refine KK.j (nMd rfl) ?_ | refine KK.a (nMd rfl) ?_ | refine KK.b (nMd rfl) ?_ | refine KK.c (nMd rfl) ?_)
set_option maxRecDepth 20000 in
theorem k_b_M_come_50_3 (L : Nat → G2 → Option (Int × G2)) (g : G2) (hL : ∀ x0 g, KO cM g (L x0 g)) : KO cM g (b_M_come_50_3 L g) := by
  unfold b_M_come_50_3
  repeat' (with_reducible first | refine KO.ite ?_ ?_ | refine KO.bd ?_ (fun _ _ _ => ?_) | refine KO.bind ?_ (fun _ _ => ?_) | exact KO.no | refine KO.so ?_ | refine KO.via (k_f_M_fail_50 ..) ?_ | refine KV.via (k_f_M_fail_50 ..) ?_ | refine KO.via (hL ..) ?_ | assumption | exact KK.rf | refine KK.i (nMd rfl) ?_ | refine KK.j (nMd rfl) ?_ | refine KK.a (nMd rfl) ?_ | refine KK.b (nMd rfl) ?_ | refine KK.c (nMd rfl) ?_)
set_option maxRecDepth 20000 in
theorem k_b_M_come_50_4 (L : Nat → G2 → Option (Int × G2)) (g : G2) (hL : ∀ x0 g, KO cM g (L x0 g)) : KO cM g (b_M_come_50_4 L g) := by
  unfold b_M_come_50_4
  repeat' (with_reducible first | refine KO.ite ?_ ?_ | refine KO.bd ?_ (fun _ _ _ => ?_) | refine KO.bind ?_ (fun _ _ => ?_) | exact KO.no | refine KO.so ?_ | refine KO.via (hL ..) ?_ | assumption | exact KK.rf | refine KK.i (nMd rfl) ?_ | refine KK.j (nMd rfl) ?_ | refine KK.a (nMd rfl) ?_ | refine KK.b (nMd rfl) ?_ | refine KK.c (nMd rfl) ?_)
set_option maxRecDepth 20000 in
theorem k_l_M_come_50 : ∀ (n : Nat) (x0 : Nat) (g : G2), KO cM g (l_M_come_50 n x0 g) := by
  intro n
  induction n with
  | zero => intros; exact KO.no
  | succ n ih =>
    intro x0 g
    unfold l_M_come_50
    try dsimp only
    first | (split <;> (first  | exact k_b_M_come_50_0 _ _ ih | exact k_b_M_come_50_1 _ _ ih | exact k_b_M_come_50_2 _ _ ih | exact k_b_M_come_50_3 _ _ ih | exact k_b_M_come_50_4 _ _ ih)) | (first  | exact k_b_M_come_50_0 _ _ ih | exact k_b_M_come_50_1 _ _ ih | exact k_b_M_come_50_2 _ _ ih | exact k_b_M_come_50_3 _ _ ih | exact k_b_M_come_50_4 _ _ ih)
set_option maxRecDepth 20000 in
theorem k_f_M_come_50 (g : G2) : KO cM g (f_M_come_50 g) := by
  unfold f_M_come_50
  repeat' (with_reducible first | refine KO.ite ?_ ?_ | refine KO.bd ?_ (fun _ _ _ => ?_) | refine KO.bind ?_ (fun _ _ => ?_) | exact KO.no | refine KO.so ?_ | refine KO.via (k_l_M_come_50 ..) ?_ | refine KV.via (k_l_M_come_50 ..) ?_ | assumption | exact KK.rf | refine KK.i (nMd rfl) ?_ | refine KK.j (nMd rfl) ?_ | refine KK.a (nMd rfl) ?_ | refine KK.b (nMd rfl) ?_ | refine KK.c (nMd rfl) ?_)
set_option maxRecDepth 20000 in
theorem k_b_M_whatIs_50_0 (L : Nat → Int → Int → Int → G2 → Option (Int × G2)) (i1 : Int) (i2 : Int) (i3 : Int) (g : G2) (hL : ∀ x0 x1 x2 x3 g, KO cM g (L x0 x1 x2 x3 g)) : KO cM g (b_M_whatIs_50_0 L i1 i2 i3 g) := by
  unfold b_M_whatIs_50_0
  repeat' (with_reducible first | refine KO.ite ?_ ?_ | refine KO.bd ?_ (fun _ _ _ => ?_) | refine KO.bind ?_ (fun _ _ => ?_) | exact KO.no | refine KO.so ?_ | refine KO.via (k_f_M_letter_50 ..) ?_ | refine KV.via (k_f_M_letter_50 ..) ?_ | refine KO.via (hL ..) ?_ | assumption | exact KK.rf | refine KK.i (nMd rfl) ?_ | refine KK.j (nMd rfl) ?_ | refine KK.a (nMd rfl) ?_ | refine KK.b (nMd rfl) ?_ | refine KK.c (nMd rfl) ?_)
set_option maxRecDepth 20000 in
theorem k_b_M_whatIs_50_1 (L : Nat → Int → Int → Int → G2 → Option (Int × G2)) (i1 : Int) (i2 : Int) (i3 : Int) (g : G2) (hL : ∀ x0 x1 x2 x3 g, KO cM g (L x0 x1 x2 x3 g)) : KO cM g (b_M_whatIs_50_1 L i1 i2 i3 g) := by
  unfold b_M_whatIs_50_1
  repeat' (with_reducible first | refine KO.ite ?_ ?_ | refine KO.bd ?_ (fun _ _ _ => ?_) | refine KO.bind ?_ (fun _ _ => ?_) | exact KO.no | refine KO.so ?_ | refine KO.via (hL ..) ?_ | assumption | exact KK.rf | refine KK.i (nMd rfl) ?_ | refine KK.j (nMd rfl) ?_ | refine KK.a (nMd rfl) ?_ | refine KK.b (nMd rfl) ?_ | refine KK.c (nMd rfl) ?_)
set_option maxRecDepth 20000 in
theorem k_l_M_whatIs_50 : ∀ (n : Nat) (x0 : Nat) (x1 : Int) (x2 : Int) (x3 : Int) (g : G2), KO cM g (l_M_whatIs_50 n x0 x1 x2 x3 g) := by
  intro n
  induction n with
  | zero => intros; exact KO.no
  | succ n ih =>
    intro x0 x1 x2 x3 g
    unfold l_M_whatIs_50
    try dsimp only
    first | (split <;> (first  | exact k_b_M_whatIs_50_0 _ _ _ _ _ ih | exact k_b_M_whatIs_50_1 _ _ _ _ _ ih)) | (first  | exact k_b_M_whatIs_50_0 _ _ _ _ _ ih | exact k_b_M_whatIs_50_1 _ _ _ _ _ ih)
set_option maxRecDepth 20000 in
theorem k_f_M_whatIs_50 (a1 : Int) (g : G2) : KO cM g (f_M_whatIs_50 a1 g) := by
  unfold f_M_whatIs_50
  repeat' (with_reducible first | refine KO.ite ?_ ?_ | refine KO.bd ?_ (fun _ _ _ => ?_) | refine KO.bind ?_ (fun _ _ => ?_) | exact KO.no | refine KO.so ?_ | refine KO.via (k_l_M_whatIs_50 ..) ?_ | refine KV.via (k_l_M_whatIs_50 ..) ?_ | assumption | exact KK.rf | refine KK.i (nMd rfl) ?_ | refine KK.j (nMd rfl) ?_ | refine KK.a (nMd rfl) ?_ | refine KK.b (nMd rfl) ?_ | refine KK.c (nMd rfl) ?_)
set_option maxRecDepth 20000 in
theorem k_b_M_codeOf_50_0 (L : Nat → Int → Int64 → Int → G2 → Option (Int64 × G2)) (i1 : Int) (l2 : Int64) (i4 : Int) (g : G2) (hL : ∀ x0 x1 x2 x3 g, KO cM g (L x0 x1 x2 x3 g)) : KO cM g (b_M_codeOf_50_0 L i1 l2 i4 g) := by
  unfold b_M_codeOf_50_0
  repeat' (with_reducible first | refine KO.ite ?_ ?_ | refine KO.bd ?_ (fun _ _ _ => ?_) | refine KO.bind ?_ (fun _ _ => ?_) | exact KO.no | refine KO.so ?_ | refine KO.via (k_f_M_letter_50 ..) ?_ | refine KV.via (k_f_M_letter_50 ..) ?_ | refine KO.via (hL ..) ?_ | assumption | exact KK.rf | refine KK.i (nMd rfl) ?_ | refine KK.j (nMd rfl) ?_ | refine KK.a (nMd rfl) ?_ | refine KK.b (nMd rfl) ?_ | refine KK.c (nMd rfl) ?_)
set_option maxRecDepth 20000 in
theorem k_l_M_codeOf_50 : ∀ (n : Nat) (x0 : Nat) (x1 : Int) (x2 : Int64) (x3 : Int) (g : G2), KO cM g (l_M_codeOf_50 n x0 x1 x2 x3 g) := by
  intro n
  induction n with
  | zero => intros; exact KO.no
  | succ n ih =>
    intro x0 x1 x2 x3 g
    unfold l_M_codeOf_50
    try dsimp only
    first | (split <;> (first  | exact k_b_M_codeOf_50_0 _ _ _ _ _ ih)) | (first  | exact k_b_M_codeOf_50_0 _ _ _ _ _ ih)
set_option maxRecDepth 20000 in
theorem k_f_M_codeOf_50 (a1 : Int) (g : G2) : KO cM g (f_M_codeOf_50 a1 g) := by
  unfold f_M_codeOf_50
  repeat' (with_reducible first | refine KO.ite ?_ ?_ | refine KO.bd ?_ (fun _ _ _ => ?_) | refine KO.bind ?_ (fun _ _ => ?_) | exact KO.no | refine KO.so ?_ | refine KO.via (k_l_M_codeOf_50 ..) ?_ | refine KV.via (k_l_M_codeOf_50 ..) ?_ | assumption | exact KK.rf | refine KK.i (nMd rfl) ?_ | refine KK.j (nMd rfl) ?_ | refine KK.a (nMd rfl) ?_ | refine KK.b (nMd rfl) ?_ | refine KK.c (nMd rfl) ?_)
set_option maxRecDepth 20000 in
theorem k_b_M_find_50_0 (L : Nat → Int64 → Int → G2 → Option (Int × G2)) (l1 : Int64) (i3 : Int) (g : G2) (hL : ∀ x0 x1 x2 g, KO cM g (L x0 x1 x2 g)) : KO cM g (b_M_find_50_0 L l1 i3 g) := by
  unfold b_M_find_50_0
  repeat' (with_reducible first | refine KO.ite ?_ ?_ | refine KO.bd ?_ (fun _ _ _ => ?_) | refine KO.bind ?_ (fun _ _ => ?_) | exact KO.no | refine KO.so ?_ | refine KO.via (hL ..) ?_ | assumption | exact KK.rf | refine KK.i (nMd rfl) ?_ | refine KK.j (nMd rfl) ?_ | refine KK.a (nMd rfl) ?_ | refine KK.b (nMd rfl) ?_ | refine KK.c (nMd rfl) ?_)
set_option maxRecDepth 20000 in
theorem k_l_M_find_50 : ∀ (n : Nat) (x0 : Nat) (x1 : Int64) (x2 : Int) (g : G2), KO cM g (l_M_find_50 n x0 x1 x2 g) := by
  intro n
  induction n with
  | zero => intros; exact KO.no
  | succ n ih =>
    intro x0 x1 x2 g
    unfold l_M_find_50
    try dsimp only
    first | (split <;> (first  | exact k_b_M_find_50_0 _ _ _ _ ih)) | (first  | exact k_b_M_find_50_0 _ _ _ _ ih)
set_option maxRecDepth 20000 in
theorem k_f_M_find_50 (a1 : Int64) (g : G2) : KO cM g (f_M_find_50 a1 g) := by
  unfold f_M_find_50
  repeat' (with_reducible first | refine KO.ite ?_ ?_ | refine KO.bd ?_ (fun _ _ _ => ?_) | refine KO.bind ?_ (fun _ _ => ?_) | exact KO.no | refine KO.so ?_ | refine KO.via (k_l_M_find_50 ..) ?_ | refine KV.via (k_l_M_find_50 ..) ?_ | assumption | exact KK.rf | refine KK.i (nMd rfl) ?_ | refine KK.j (nMd rfl) ?_ | refine KK.a (nMd rfl) ?_ | refine KK.b (nMd rfl) ?_ | refine KK.c (nMd rfl) ?_)
set_option maxRecDepth 20000 in
theorem k_f_M_need_50 (g : G2) : KO cM g (f_M_need_50 g) := by
  unfold f_M_need_50
  repeat' (with_reducible first | refine KO.ite ?_ ?_ | refine KO.bd ?_ (fun _ _ _ => ?_) | refine KO.bind ?_ (fun _ _ => ?_) | exact KO.no | refine KO.so ?_ | refine KO.via (k_f_M_come_50 ..) ?_ | refine KV.via (k_f_M_come_50 ..) ?_ | refine KO.via (k_f_M_fail_50 ..) ?_ | refine KV.via (k_f_M_fail_50 ..) ?_ | refine KO.via (k_f_M_whatIs_50 ..) ?_ | refine KV.via (k_f_M_whatIs_50 ..) ?_ | assumption | exact KK.rf | refine KK.i (nMd rfl) ?_ | refine KK.j (nMd rfl) ?_ | refine KK.a (nMd rfl) ?_ | refine KK.b (nMd rfl) ?_ | refine KK.c (nMd rfl) ?_)
set_option maxRecDepth 20000 in
theorem k_f_M_needName_50 (g : G2) : KO cM g (f_M_needName_50 g) := by
  unfold f_M_needName_50
  repeat' (with_reducible first | refine KO.ite ?_ ?_ | refine KO.bd ?_ (fun _ _ _ => ?_) | refine KO.bind ?_ (fun _ _ => ?_) | exact KO.no | refine KO.so ?_ | refine KO.via (k_f_M_fail_50 ..) ?_ | refine KV.via (k_f_M_fail_50 ..) ?_ | refine KO.via (k_f_M_need_50 ..) ?_ | refine KV.via (k_f_M_need_50 ..) ?_ | assumption | exact KK.rf | refine KK.i (nMd rfl) ?_ | refine KK.j (nMd rfl) ?_ | refine KK.a (nMd rfl) ?_ | refine KK.b (nMd rfl) ?_ | refine KK.c (nMd rfl) ?_)
set_option maxRecDepth 20000 in
theorem k_f_M_findWord_50 (g : G2) : KO cM g (f_M_findWord_50 g) := by
  unfold f_M_findWord_50
  repeat' (with_reducible first | refine KO.ite ?_ ?_ | refine KO.bd ?_ (fun _ _ _ => ?_) | refine KO.bind ?_ (fun _ _ => ?_) | exact KO.no | refine KO.so ?_ | refine KO.via (k_f_M_codeOf_50 ..) ?_ | refine KV.via (k_f_M_codeOf_50 ..) ?_ | refine KO.via (k_f_M_find_50 ..) ?_ | refine KV.via (k_f_M_find_50 ..) ?_ | assumption | exact KK.rf | refine KK.i (nMd rfl) ?_ | refine KK.j (nMd rfl) ?_ | refine KK.a (nMd rfl) ?_ | refine KK.b (nMd rfl) ?_ | refine KK.c (nMd rfl) ?_)
set_option maxRecDepth 20000 in
theorem k_f_M_isConstant_50 (a1 : Int) (g : G2) : KO cM g (f_M_isConstant_50 a1 g) := by
  unfold f_M_isConstant_50
  repeat' (with_reducible first | refine KO.ite ?_ ?_ | refine KO.bd ?_ (fun _ _ _ => ?_) | refine KO.bind ?_ (fun _ _ => ?_) | exact KO.no | refine KO.so ?_ | assumption | exact KK.rf | refine KK.i (nMd rfl) ?_ | refine KK.j (nMd rfl) ?_ | refine KK.a (nMd rfl) ?_ | refine KK.b (nMd rfl) ?_ | refine KK.c (nMd rfl) ?_)
set_option maxRecDepth 20000 in
theorem k_f_M_isLive_50 (a1 : Int) (g : G2) : KO cM g (f_M_isLive_50 a1 g) := by
  unfold f_M_isLive_50
  repeat' (with_reducible first | refine KO.ite ?_ ?_ | refine KO.bd ?_ (fun _ _ _ => ?_) | refine KO.bind ?_ (fun _ _ => ?_) | exact KO.no | refine KO.so ?_ | assumption | exact KK.rf | refine KK.i (nMd rfl) ?_ | refine KK.j (nMd rfl) ?_ | refine KK.a (nMd rfl) ?_ | refine KK.b (nMd rfl) ?_ | refine KK.c (nMd rfl) ?_)
set_option maxRecDepth 20000 in
theorem k_f_M_readType_50 (g : G2) : KO cM g (f_M_readType_50 g) := by
  unfold f_M_readType_50
  repeat' (with_reducible first | refine KO.ite ?_ ?_ | refine KO.bd ?_ (fun _ _ _ => ?_) | refine KO.bind ?_ (fun _ _ => ?_) | exact KO.no | refine KO.so ?_ | refine KO.via (k_f_M_fail_50 ..) ?_ | refine KV.via (k_f_M_fail_50 ..) ?_ | refine KO.via (k_f_M_findWord_50 ..) ?_ | refine KV.via (k_f_M_findWord_50 ..) ?_ | refine KO.via (k_f_M_isConstant_50 ..) ?_ | refine KV.via (k_f_M_isConstant_50 ..) ?_ | refine KO.via (k_f_M_isLive_50 ..) ?_ | refine KV.via (k_f_M_isLive_50 ..) ?_ | refine KO.via (k_f_M_needName_50 ..) ?_ | refine KV.via (k_f_M_needName_50 ..) ?_ | assumption | exact KK.rf | refine KK.i (nMd rfl) ?_ | refine KK.j (nMd rfl) ?_ | refine KK.a (nMd rfl) ?_ | refine KK.b (nMd rfl) ?_ | refine KK.c (nMd rfl) ?_)
set_option maxRecDepth 20000 in
theorem k_b_M_typeOf_50_0 (L : Nat → Int → Int → G2 → Option (Int × G2)) (i1 : Int) (i2 : Int) (g : G2) (hL : ∀ x0 x1 x2 g, KO cM g (L x0 x1 x2 g)) : KO cM g (b_M_typeOf_50_0 L i1 i2 g) := by
  unfold b_M_typeOf_50_0
  repeat' (with_reducible first | refine KO.ite ?_ ?_ | refine KO.bd ?_ (fun _ _ _ => ?_) | refine KO.bind ?_ (fun _ _ => ?_) | exact KO.no | refine KO.so ?_ | refine KO.via (hL ..) ?_ | assumption | exact KK.rf | refine KK.i (nMd rfl) ?_ | refine KK.j (nMd rfl) ?_ | refine KK.a (nMd rfl) ?_ | refine KK.b (nMd rfl) ?_ | refine KK.c (nMd rfl) ?_)
set_option maxRecDepth 20000 in
theorem k_l_M_typeOf_50 : ∀ (n : Nat) (x0 : Nat) (x1 : Int) (x2 : Int) (g : G2), KO cM g (l_M_typeOf_50 n x0 x1 x2 g) := by
  intro n
  induction n with
  | zero => intros; exact KO.no
  | succ n ih =>
    intro x0 x1 x2 g
    unfold l_M_typeOf_50
    try dsimp only
    first | (split <;> (first  | exact k_b_M_typeOf_50_0 _ _ _ _ ih)) | (first  | exact k_b_M_typeOf_50_0 _ _ _ _ ih)
set_option maxRecDepth 20000 in
theorem k_f_M_typeOf_50 (a1 : Int) (g : G2) : KO cM g (f_M_typeOf_50 a1 g) := by
  unfold f_M_typeOf_50
  repeat' (with_reducible first | refine KO.ite ?_ ?_ | refine KO.bd ?_ (fun _ _ _ => ?_) | refine KO.bind ?_ (fun _ _ => ?_) | exact KO.no | refine KO.so ?_ | refine KO.via (k_l_M_typeOf_50 ..) ?_ | refine KV.via (k_l_M_typeOf_50 ..) ?_ | assumption | exact KK.rf | refine KK.i (nMd rfl) ?_ | refine KK.j (nMd rfl) ?_ | refine KK.a (nMd rfl) ?_ | refine KK.b (nMd rfl) ?_ | refine KK.c (nMd rfl) ?_)
set_option maxRecDepth 20000 in
theorem k_f_M_addName_50 (a1 : Int64) (g : G2) : KO cM g (f_M_addName_50 a1 g) := by
  unfold f_M_addName_50
  repeat' (with_reducible first | refine KO.ite ?_ ?_ | refine KO.bd ?_ (fun _ _ _ => ?_) | refine KO.bind ?_ (fun _ _ => ?_) | exact KO.no | refine KO.so ?_ | assumption | exact KK.rf | refine KK.i (nMd rfl) ?_ | refine KK.j (nMd rfl) ?_ | refine KK.a (nMd rfl) ?_ | refine KK.b (nMd rfl) ?_ | refine KK.c (nMd rfl) ?_)
set_option maxRecDepth 20000 in
theorem k_b_M_declare_50_0 (L : Nat → Int → Int → Int → G2 → Option (Int × G2)) (i1 : Int) (i4 : Int) (i6 : Int) (g : G2) (hL : ∀ x0 x1 x2 x3 g, KO cM g (L x0 x1 x2 x3 g)) : KO cM g (b_M_declare_50_0 L i1 i4 i6 g) := by
  unfold b_M_declare_50_0
  repeat' (with_reducible first | refine KO.ite ?_ ?_ | refine KO.bd ?_ (fun _ _ _ => ?_) | refine KO.bind ?_ (fun _ _ => ?_) | exact KO.no | refine KO.so ?_ | refine KO.via (hL ..) ?_ | assumption | exact KK.rf | refine KK.i (nMd rfl) ?_ | refine KK.j (nMd rfl) ?_ | refine KK.a (nMd rfl) ?_ | refine KK.b (nMd rfl) ?_ | refine KK.c (nMd rfl) ?_)
set_option maxRecDepth 20000 in
theorem k_l_M_declare_50 : ∀ (n : Nat) (x0 : Nat) (x1 : Int) (x2 : Int) (x3 : Int) (g : G2), KO cM g (l_M_declare_50 n x0 x1 x2 x3 g) := by
  intro n
  induction n with
  | zero => intros; exact KO.no
  | succ n ih =>
    intro x0 x1 x2 x3 g
    unfold l_M_declare_50
    try dsimp only
    first | (split <;> (first  | exact k_b_M_declare_50_0 _ _ _ _ _ ih)) | (first  | exact k_b_M_declare_50_0 _ _ _ _ _ ih)
set_option maxRecDepth 20000 in
theorem k_f_M_declare_50 (a1 : Int) (a2 : Int64) (g : G2) : KO cM g (f_M_declare_50 a1 a2 g) := by
  unfold f_M_declare_50
  repeat' (with_reducible first | refine KO.ite ?_ ?_ | refine KO.bd ?_ (fun _ _ _ => ?_) | refine KO.bind ?_ (fun _ _ => ?_) | exact KO.no | refine KO.so ?_ | refine KO.via (k_f_M_addName_50 ..) ?_ | refine KV.via (k_f_M_addName_50 ..) ?_ | refine KO.via (k_l_M_declare_50 ..) ?_ | refine KV.via (k_l_M_declare_50 ..) ?_ | assumption | exact KK.rf | refine KK.i (nMd rfl) ?_ | refine KK.j (nMd rfl) ?_ | refine KK.a (nMd rfl) ?_ | refine KK.b (nMd rfl) ?_ | refine KK.c (nMd rfl) ?_)
set_option maxRecDepth 20000 in
theorem k_b_M_readFloating_50_0 (L : Nat → Int64 → G2 → Option (G2)) (l1 : Int64) (g : G2) (hL : ∀ x0 x1 g, KV cM g (L x0 x1 g)) : KV cM g (b_M_readFloating_50_0 L l1 g) := by
  unfold b_M_readFloating_50_0
  repeat' (with_reducible first | refine KV.ite ?_ ?_ | refine KV.bd ?_ (fun _ _ _ => ?_) | refine KV.bind ?_ (fun _ _ => ?_) | exact KV.no | refine KV.so ?_ | refine KV.via (hL ..) ?_ | assumption | exact KK.rf | refine KK.i (nMd rfl) ?_ | refine KK.j (nMd rfl) ?_ | refine KK.a (nMd rfl) ?_ | refine KK.b (nMd rfl) ?_ | refine KK.c (nMd rfl) ?_)
set_option maxRecDepth 20000 in
theorem k_b_M_readFloating_50_1 (L : Nat → Int64 → G2 → Option (G2)) (l1 : Int64) (g : G2) (hL : ∀ x0 x1 g, KV cM g (L x0 x1 g)) : KV cM g (b_M_readFloating_50_1 L l1 g) := by
  unfold b_M_readFloating_50_1
  repeat' (with_reducible first | refine KV.ite ?_ ?_ | refine KV.bd ?_ (fun _ _ _ => ?_) | refine KV.bind ?_ (fun _ _ => ?_) | exact KV.no | refine KV.so ?_ | refine KO.via (k_f_M_fail_50 ..) ?_ | refine KV.via (k_f_M_fail_50 ..) ?_ | refine KV.via (hL ..) ?_ | assumption | exact KK.rf | refine KK.i (nMd rfl) ?_ | refine KK.j (nMd rfl) ?_ | refine KK.a (nMd rfl) ?_ | refine KK.b (nMd rfl) ?_ | refine KK.c (nMd rfl) ?_)
set_option maxRecDepth 20000 in
theorem k_b_M_readFloating_50_2 (L : Nat → Int64 → G2 → Option (G2)) (l1 : Int64) (g : G2) (hL : ∀ x0 x1 g, KV cM g (L x0 x1 g)) : KV cM g (b_M_readFloating_50_2 L l1 g) := by
  unfold b_M_readFloating_50_2
  repeat' (with_reducible first | refine KV.ite ?_ ?_ | refine KV.bd ?_ (fun _ _ _ => ?_) | refine KV.bind ?_ (fun _ _ => ?_) | exact KV.no | refine KV.so ?_ | refine KO.via (k_f_M_declare_50 ..) ?_ | refine KV.via (k_f_M_declare_50 ..) ?_ | refine KV.via (hL ..) ?_ | assumption | exact KK.rf | refine KK.i (nMd rfl) ?_ | refine KK.j (nMd rfl) ?_ | refine KK.a (nMd rfl) ?_ | refine KK.b (nMd rfl) ?_ | refine KK.c (nMd rfl) ?_)
set_option maxRecDepth 20000 in
theorem k_b_M_readFloating_50_3 (L : Nat → Int64 → G2 → Option (G2)) (l1 : Int64) (g : G2) (hL : ∀ x0 x1 g, KV cM g (L x0 x1 g)) : KV cM g (b_M_readFloating_50_3 L l1 g) := by
  unfold b_M_readFloating_50_3
  repeat' (with_reducible first | refine KV.ite ?_ ?_ | refine KV.bd ?_ (fun _ _ _ => ?_) | refine KV.bind ?_ (fun _ _ => ?_) | exact KV.no | refine KV.so ?_ | refine KV.via (hL ..) ?_ | assumption | exact KK.rf | refine KK.i (nMd rfl) ?_ | refine KK.j (nMd rfl) ?_ | refine KK.a (nMd rfl) ?_ | refine KK.b (nMd rfl) ?_ | refine KK.c (nMd rfl) ?_)
set_option maxRecDepth 20000 in
theorem k_l_M_readFloating_50 : ∀ (n : Nat) (x0 : Nat) (x1 : Int64) (g : G2), KV cM g (l_M_readFloating_50 n x0 x1 g) := by
  intro n
  induction n with
  | zero => intros; exact KV.no
  | succ n ih =>
    intro x0 x1 g
    unfold l_M_readFloating_50
    try dsimp only
    first | (split <;> (first  | exact k_b_M_readFloating_50_0 _ _ _ ih | exact k_b_M_readFloating_50_1 _ _ _ ih | exact k_b_M_readFloating_50_2 _ _ _ ih | exact k_b_M_readFloating_50_3 _ _ _ ih)) | (first  | exact k_b_M_readFloating_50_0 _ _ _ ih | exact k_b_M_readFloating_50_1 _ _ _ ih | exact k_b_M_readFloating_50_2 _ _ _ ih | exact k_b_M_readFloating_50_3 _ _ _ ih)
set_option maxRecDepth 20000 in
theorem k_f_M_readFloating_50 (a1 : Int64) (g : G2) : KV cM g (f_M_readFloating_50 a1 g) := by
  unfold f_M_readFloating_50
  repeat' (with_reducible first | refine KV.ite ?_ ?_ | refine KV.bd ?_ (fun _ _ _ => ?_) | refine KV.bind ?_ (fun _ _ => ?_) | exact KV.no | refine KV.so ?_ | refine KO.via (k_f_M_fail_50 ..) ?_ | refine KV.via (k_f_M_fail_50 ..) ?_ | refine KO.via (k_f_M_findWord_50 ..) ?_ | refine KV.via (k_f_M_findWord_50 ..) ?_ | refine KO.via (k_f_M_isConstant_50 ..) ?_ | refine KV.via (k_f_M_isConstant_50 ..) ?_ | refine KO.via (k_f_M_isLive_50 ..) ?_ | refine KV.via (k_f_M_isLive_50 ..) ?_ | refine KO.via (k_f_M_needName_50 ..) ?_ | refine KV.via (k_f_M_needName_50 ..) ?_ | refine KO.via (k_f_M_need_50 ..) ?_ | refine KV.via (k_f_M_need_50 ..) ?_ | refine KO.via (k_f_M_readType_50 ..) ?_ | refine KV.via (k_f_M_readType_50 ..) ?_ | refine KO.via (k_f_M_typeOf_50 ..) ?_ | refine KV.via (k_f_M_typeOf_50 ..) ?_ | refine KO.via (k_l_M_readFloating_50 ..) ?_ | refine KV.via (k_l_M_readFloating_50 ..) ?_ | assumption | exact KK.rf | refine KK.i (nMd rfl) ?_ | refine KK.j (nMd rfl) ?_ | refine KK.a (nMd rfl) ?_ | refine KK.b (nMd rfl) ?_ | refine KK.c (nMd rfl) ?_)
set_option maxRecDepth 20000 in
theorem k_b_M_readExpression_50_0 (L : Nat → Int → Int → G2 → Option (Int × G2)) (i1 : Int) (i3 : Int) (g : G2) (hL : ∀ x0 x1 x2 g, KO cM g (L x0 x1 x2 g)) : KO cM g (b_M_readExpression_50_0 L i1 i3 g) := by
  unfold b_M_readExpression_50_0
  repeat' (with_reducible first | refine KO.ite ?_ ?_ | refine KO.bd ?_ (fun _ _ _ => ?_) | refine KO.bind ?_ (fun _ _ => ?_) | exact KO.no | refine KO.so ?_ | refine KO.via (k_f_M_fail_50 ..) ?_ | refine KV.via (k_f_M_fail_50 ..) ?_ | refine KO.via (k_f_M_findWord_50 ..) ?_ | refine KV.via (k_f_M_findWord_50 ..) ?_ | refine KO.via (k_f_M_isConstant_50 ..) ?_ | refine KV.via (k_f_M_isConstant_50 ..) ?_ | refine KO.via (k_f_M_isLive_50 ..) ?_ | refine KV.via (k_f_M_isLive_50 ..) ?_ | refine KO.via (k_f_M_need_50 ..) ?_ | refine KV.via (k_f_M_need_50 ..) ?_ | refine KO.via (k_f_M_typeOf_50 ..) ?_ | refine KV.via (k_f_M_typeOf_50 ..) ?_ | refine KO.via (hL ..) ?_ | assumption | exact KK.rf | refine KK.i (nMd rfl) ?_ | refine KK.j (nMd rfl) ?_ | refine KK.a (nMd rfl) ?_ | refine KK.b (nMd rfl) ?_ | refine KK.c (nMd rfl) ?_)
set_option maxRecDepth 20000 in
theorem k_b_M_readExpression_50_1 (L : Nat → Int → Int → G2 → Option (Int × G2)) (i1 : Int) (i3 : Int) (g : G2) (hL : ∀ x0 x1 x2 g, KO cM g (L x0 x1 x2 g)) : KO cM g (b_M_readExpression_50_1 L i1 i3 g) := by
  unfold b_M_readExpression_50_1
  repeat' (with_reducible first | refine KO.ite ?_ ?_ | refine KO.bd ?_ (fun _ _ _ => ?_) | refine KO.bind ?_ (fun _ _ => ?_) | exact KO.no | refine KO.so ?_ | refine KO.via (k_f_M_fail_50 ..) ?_ | refine KV.via (k_f_M_fail_50 ..) ?_ | refine KO.via (hL ..) ?_ | assumption | exact KK.rf | refine KK.i (nMd rfl) ?_ | refine KK.j (nMd rfl) ?_ | refine KK.a (nMd rfl) ?_ | refine KK.b (nMd rfl) ?_ | refine KK.c (nMd rfl) ?_)
set_option maxRecDepth 20000 in
theorem k_b_M_readExpression_50_2 (L : Nat → Int → Int → G2 → Option (Int × G2)) (i1 : Int) (i3 : Int) (g : G2) (hL : ∀ x0 x1 x2 g, KO cM g (L x0 x1 x2 g)) : KO cM g (b_M_readExpression_50_2 L i1 i3 g) := by
  unfold b_M_readExpression_50_2
  repeat' (with_reducible first | refine KO.ite ?_ ?_ | refine KO.bd ?_ (fun _ _ _ => ?_) | refine KO.bind ?_ (fun _ _ => ?_) | exact KO.no | refine KO.so ?_ | refine KO.via (k_f_M_fail_50 ..) ?_ | refine KV.via (k_f_M_fail_50 ..) ?_ | refine KO.via (hL ..) ?_ | assumption | exact KK.rf | refine KK.i (nMd rfl) ?_ | refine KK.j (nMd rfl) ?_ | refine KK.a (nMd rfl) ?_ | refine KK.b (nMd rfl) ?_ | refine KK.c (nMd rfl) ?_)
set_option maxRecDepth 20000 in
theorem k_b_M_readExpression_50_3 (L : Nat → Int → Int → G2 → Option (Int × G2)) (i1 : Int) (i3 : Int) (g : G2) (hL : ∀ x0 x1 x2 g, KO cM g (L x0 x1 x2 g)) : KO cM g (b_M_readExpression_50_3 L i1 i3 g) := by
  unfold b_M_readExpression_50_3
  repeat' (with_reducible first | refine KO.ite ?_ ?_ | refine KO.bd ?_ (fun _ _ _ => ?_) | refine KO.bind ?_ (fun _ _ => ?_) | exact KO.no | refine KO.so ?_ | refine KO.via (hL ..) ?_ | assumption | exact KK.rf | refine KK.i (nMd rfl) ?_ | refine KK.j (nMd rfl) ?_ | refine KK.a (nMd rfl) ?_ | refine KK.b (nMd rfl) ?_ | refine KK.c (nMd rfl) ?_)
set_option maxRecDepth 20000 in
theorem k_l_M_readExpression_50 : ∀ (n : Nat) (x0 : Nat) (x1 : Int) (x2 : Int) (g : G2), KO cM g (l_M_readExpression_50 n x0 x1 x2 g) := by
  intro n
  induction n with
  | zero => intros; exact KO.no
  | succ n ih =>
    intro x0 x1 x2 g
    unfold l_M_readExpression_50
    try dsimp only
    first | (split <;> (first  | exact k_b_M_readExpression_50_0 _ _ _ _ ih | exact k_b_M_readExpression_50_1 _ _ _ _ ih | exact k_b_M_readExpression_50_2 _ _ _ _ ih | exact k_b_M_readExpression_50_3 _ _ _ _ ih)) | (first  | exact k_b_M_readExpression_50_0 _ _ _ _ ih | exact k_b_M_readExpression_50_1 _ _ _ _ ih | exact k_b_M_readExpression_50_2 _ _ _ _ ih | exact k_b_M_readExpression_50_3 _ _ _ _ ih)
set_option maxRecDepth 20000 in
theorem k_f_M_readExpression_50 (a1 : Int) (g : G2) : KO cM g (f_M_readExpression_50 a1 g) := by
  unfold f_M_readExpression_50
  repeat' (with_reducible first | refine KO.ite ?_ ?_ | refine KO.bd ?_ (fun _ _ _ => ?_) | refine KO.bind ?_ (fun _ _ => ?_) | exact KO.no | refine KO.so ?_ | refine KO.via (k_f_M_readType_50 ..) ?_ | refine KV.via (k_f_M_readType_50 ..) ?_ | refine KO.via (k_l_M_readExpression_50 ..) ?_ | refine KV.via (k_l_M_readExpression_50 ..) ?_ | assumption | exact KK.rf | refine KK.i (nMd rfl) ?_ | refine KK.j (nMd rfl) ?_ | refine KK.a (nMd rfl) ?_ | refine KK.b (nMd rfl) ?_ | refine KK.c (nMd rfl) ?_)
set_option maxRecDepth 20000 in
theorem k_b_M_settle_50_0 (L : Nat → Int → Int → G2 → Option (G2)) (i1 : Int) (i2 : Int) (g : G2) (hL : ∀ x0 x1 x2 g, KV cM g (L x0 x1 x2 g)) : KV cM g (b_M_settle_50_0 L i1 i2 g) := by
  unfold b_M_settle_50_0
  repeat' (with_reducible first | refine KV.ite ?_ ?_ | refine KV.bd ?_ (fun _ _ _ => ?_) | refine KV.bind ?_ (fun _ _ => ?_) | exact KV.no | refine KV.so ?_ | refine KV.via (hL ..) ?_ | assumption | exact KK.rf | refine KK.i (nMd rfl) ?_ | refine KK.j (nMd rfl) ?_ | refine KK.a (nMd rfl) ?_ | refine KK.b (nMd rfl) ?_ | refine KK.c (nMd rfl) ?_)
set_option maxRecDepth 20000 in
theorem k_l_M_settle_50 : ∀ (n : Nat) (x0 : Nat) (x1 : Int) (x2 : Int) (g : G2), KV cM g (l_M_settle_50 n x0 x1 x2 g) := by
  intro n
  induction n with
  | zero => intros; exact KV.no
  | succ n ih =>
    intro x0 x1 x2 g
    unfold l_M_settle_50
    try dsimp only
    first | (split <;> (first  | exact k_b_M_settle_50_0 _ _ _ _ ih)) | (first  | exact k_b_M_settle_50_0 _ _ _ _ ih)
set_option maxRecDepth 20000 in
theorem k_f_M_settle_50 (a1 : Int) (g : G2) : KV cM g (f_M_settle_50 a1 g) := by
  unfold f_M_settle_50
  repeat' (with_reducible first | refine KV.ite ?_ ?_ | refine KV.bd ?_ (fun _ _ _ => ?_) | refine KV.bind ?_ (fun _ _ => ?_) | exact KV.no | refine KV.so ?_ | refine KO.via (k_l_M_settle_50 ..) ?_ | refine KV.via (k_l_M_settle_50 ..) ?_ | assumption | exact KK.rf | refine KK.i (nMd rfl) ?_ | refine KK.j (nMd rfl) ?_ | refine KK.a (nMd rfl) ?_ | refine KK.b (nMd rfl) ?_ | refine KK.c (nMd rfl) ?_)
set_option maxRecDepth 20000 in
theorem k_b_M_mark_50_0 (L : Nat → Int → Int → Int → Int → G2 → Option (G2)) (i1 : Int) (i2 : Int) (i3 : Int) (i4 : Int) (g : G2) (hL : ∀ x0 x1 x2 x3 x4 g, KV cM g (L x0 x1 x2 x3 x4 g)) : KV cM g (b_M_mark_50_0 L i1 i2 i3 i4 g) := by
  unfold b_M_mark_50_0
  repeat' (with_reducible first | refine KV.ite ?_ ?_ | refine KV.bd ?_ (fun _ _ _ => ?_) | refine KV.bind ?_ (fun _ _ => ?_) | exact KV.no | refine KV.so ?_ | refine KV.via (hL ..) ?_ | assumption | exact KK.rf | refine KK.i (nMd rfl) ?_ | refine KK.j (nMd rfl) ?_ | refine KK.a (nMd rfl) ?_ | refine KK.b (nMd rfl) ?_ | refine KK.c (nMd rfl) ?_)
set_option maxRecDepth 20000 in
theorem k_l_M_mark_50 : ∀ (n : Nat) (x0 : Nat) (x1 : Int) (x2 : Int) (x3 : Int) (x4 : Int) (g : G2), KV cM g (l_M_mark_50 n x0 x1 x2 x3 x4 g) := by
  intro n
  induction n with
  | zero => intros; exact KV.no
  | succ n ih =>
    intro x0 x1 x2 x3 x4 g
    unfold l_M_mark_50
    try dsimp only
    first | (split <;> (first  | exact k_b_M_mark_50_0 _ _ _ _ _ _ ih)) | (first  | exact k_b_M_mark_50_0 _ _ _ _ _ _ ih)
set_option maxRecDepth 20000 in
theorem k_f_M_mark_50 (a1 : Int) (a2 : Int) (a3 : Int) (g : G2) : KV cM g (f_M_mark_50 a1 a2 a3 g) := by
  unfold f_M_mark_50
  repeat' (with_reducible first | refine KV.ite ?_ ?_ | refine KV.bd ?_ (fun _ _ _ => ?_) | refine KV.bind ?_ (fun _ _ => ?_) | exact KV.no | refine KV.so ?_ | refine KO.via (k_l_M_mark_50 ..) ?_ | refine KV.via (k_l_M_mark_50 ..) ?_ | assumption | exact KK.rf | refine KK.i (nMd rfl) ?_ | refine KK.j (nMd rfl) ?_ | refine KK.a (nMd rfl) ?_ | refine KK.b (nMd rfl) ?_ | refine KK.c (nMd rfl) ?_)
set_option maxRecDepth 20000 in
theorem k_b_M_isNeeded_50_0 (L : Nat → Int → Int → Int → Int → G2 → Option (Int × G2)) (i1 : Int) (i2 : Int) (i3 : Int) (i4 : Int) (g : G2) (hL : ∀ x0 x1 x2 x3 x4 g, KO cM g (L x0 x1 x2 x3 x4 g)) : KO cM g (b_M_isNeeded_50_0 L i1 i2 i3 i4 g) := by
  unfold b_M_isNeeded_50_0
  repeat' (with_reducible first | refine KO.ite ?_ ?_ | refine KO.bd ?_ (fun _ _ _ => ?_) | refine KO.bind ?_ (fun _ _ => ?_) | exact KO.no | refine KO.so ?_ | refine KO.via (hL ..) ?_ | assumption | exact KK.rf | refine KK.i (nMd rfl) ?_ | refine KK.j (nMd rfl) ?_ | refine KK.a (nMd rfl) ?_ | refine KK.b (nMd rfl) ?_ | refine KK.c (nMd rfl) ?_)
set_option maxRecDepth 20000 in
theorem k_l_M_isNeeded_50 : ∀ (n : Nat) (x0 : Nat) (x1 : Int) (x2 : Int) (x3 : Int) (x4 : Int) (g : G2), KO cM g (l_M_isNeeded_50 n x0 x1 x2 x3 x4 g) := by
  intro n
  induction n with
  | zero => intros; exact KO.no
  | succ n ih =>
    intro x0 x1 x2 x3 x4 g
    unfold l_M_isNeeded_50
    try dsimp only
    first | (split <;> (first  | exact k_b_M_isNeeded_50_0 _ _ _ _ _ _ ih)) | (first  | exact k_b_M_isNeeded_50_0 _ _ _ _ _ _ ih)
set_option maxRecDepth 20000 in
theorem k_f_M_isNeeded_50 (a1 : Int) (a2 : Int) (a3 : Int) (g : G2) : KO cM g (f_M_isNeeded_50 a1 a2 a3 g) := by
  unfold f_M_isNeeded_50
  repeat' (with_reducible first | refine KO.ite ?_ ?_ | refine KO.bd ?_ (fun _ _ _ => ?_) | refine KO.bind ?_ (fun _ _ => ?_) | exact KO.no | refine KO.so ?_ | refine KO.via (k_l_M_isNeeded_50 ..) ?_ | refine KV.via (k_l_M_isNeeded_50 ..) ?_ | assumption | exact KK.rf | refine KK.i (nMd rfl) ?_ | refine KK.j (nMd rfl) ?_ | refine KK.a (nMd rfl) ?_ | refine KK.b (nMd rfl) ?_ | refine KK.c (nMd rfl) ?_)
set_option maxRecDepth 20000 in
theorem k_b_M_findNeeds_50_0 (L : Nat → Int → Int → G2 → Option (G2)) (i1 : Int) (i2 : Int) (g : G2) (hL : ∀ x0 x1 x2 g, KV cM g (L x0 x1 x2 g)) : KV cM g (b_M_findNeeds_50_0 L i1 i2 g) := by
  unfold b_M_findNeeds_50_0
  repeat' (with_reducible first | refine KV.ite ?_ ?_ | refine KV.bd ?_ (fun _ _ _ => ?_) | refine KV.bind ?_ (fun _ _ => ?_) | exact KV.no | refine KV.so ?_ | refine KO.via (k_f_M_mark_50 ..) ?_ | refine KV.via (k_f_M_mark_50 ..) ?_ | refine KV.via (hL ..) ?_ | assumption | exact KK.rf | refine KK.i (nMd rfl) ?_ | refine KK.j (nMd rfl) ?_ | refine KK.a (nMd rfl) ?_ | refine KK.b (nMd rfl) ?_ | refine KK.c (nMd rfl) ?_)
set_option maxRecDepth 20000 in
theorem k_b_M_findNeeds_50_1 (L : Nat → Int → Int → G2 → Option (G2)) (i1 : Int) (i2 : Int) (g : G2) (hL : ∀ x0 x1 x2 g, KV cM g (L x0 x1 x2 g)) : KV cM g (b_M_findNeeds_50_1 L i1 i2 g) := by
  unfold b_M_findNeeds_50_1
  repeat' (with_reducible first | refine KV.ite ?_ ?_ | refine KV.bd ?_ (fun _ _ _ => ?_) | refine KV.bind ?_ (fun _ _ => ?_) | exact KV.no | refine KV.so ?_ | refine KO.via (k_f_M_mark_50 ..) ?_ | refine KV.via (k_f_M_mark_50 ..) ?_ | refine KV.via (hL ..) ?_ | assumption | exact KK.rf | refine KK.i (nMd rfl) ?_ | refine KK.j (nMd rfl) ?_ | refine KK.a (nMd rfl) ?_ | refine KK.b (nMd rfl) ?_ | refine KK.c (nMd rfl) ?_)
set_option maxRecDepth 20000 in
theorem k_b_M_findNeeds_50_2 (L : Nat → Int → Int → G2 → Option (G2)) (i1 : Int) (i2 : Int) (g : G2) (hL : ∀ x0 x1 x2 g, KV cM g (L x0 x1 x2 g)) : KV cM g (b_M_findNeeds_50_2 L i1 i2 g) := by
  unfold b_M_findNeeds_50_2
  repeat' (with_reducible first | refine KV.ite ?_ ?_ | refine KV.bd ?_ (fun _ _ _ => ?_) | refine KV.bind ?_ (fun _ _ => ?_) | exact KV.no | refine KV.so ?_ | refine KV.via (hL ..) ?_ | assumption | exact KK.rf | refine KK.i (nMd rfl) ?_ | refine KK.j (nMd rfl) ?_ | refine KK.a (nMd rfl) ?_ | refine KK.b (nMd rfl) ?_ | refine KK.c (nMd rfl) ?_)
set_option maxRecDepth 20000 in
theorem k_b_M_findNeeds_50_3 (L : Nat → Int → Int → G2 → Option (G2)) (i1 : Int) (i2 : Int) (g : G2) (hL : ∀ x0 x1 x2 g, KV cM g (L x0 x1 x2 g)) : KV cM g (b_M_findNeeds_50_3 L i1 i2 g) := by
  unfold b_M_findNeeds_50_3
  repeat' (with_reducible first | refine KV.ite ?_ ?_ | refine KV.bd ?_ (fun _ _ _ => ?_) | refine KV.bind ?_ (fun _ _ => ?_) | exact KV.no | refine KV.so ?_ | refine KV.via (hL ..) ?_ | assumption | exact KK.rf | refine KK.i (nMd rfl) ?_ | refine KK.j (nMd rfl) ?_ | refine KK.a (nMd rfl) ?_ | refine KK.b (nMd rfl) ?_ | refine KK.c (nMd rfl) ?_)
set_option maxRecDepth 20000 in
theorem k_b_M_findNeeds_50_4 (L : Nat → Int → Int → G2 → Option (G2)) (i1 : Int) (i2 : Int) (g : G2) (hL : ∀ x0 x1 x2 g, KV cM g (L x0 x1 x2 g)) : KV cM g (b_M_findNeeds_50_4 L i1 i2 g) := by
  unfold b_M_findNeeds_50_4
  repeat' (with_reducible first | refine KV.ite ?_ ?_ | refine KV.bd ?_ (fun _ _ _ => ?_) | refine KV.bind ?_ (fun _ _ => ?_) | exact KV.no | refine KV.so ?_ | refine KV.via (hL ..) ?_ | assumption | exact KK.rf | refine KK.i (nMd rfl) ?_ | refine KK.j (nMd rfl) ?_ | refine KK.a (nMd rfl) ?_ | refine KK.b (nMd rfl) ?_ | refine KK.c (nMd rfl) ?_)
set_option maxRecDepth 20000 in
theorem k_b_M_findNeeds_50_5 (L : Nat → Int → Int → G2 → Option (G2)) (i1 : Int) (i2 : Int) (g : G2) (hL : ∀ x0 x1 x2 g, KV cM g (L x0 x1 x2 g)) : KV cM g (b_M_findNeeds_50_5 L i1 i2 g) := by
  unfold b_M_findNeeds_50_5
  repeat' (with_reducible first | refine KV.ite ?_ ?_ | refine KV.bd ?_ (fun _ _ _ => ?_) | refine KV.bind ?_ (fun _ _ => ?_) | exact KV.no | refine KV.so ?_ | refine KV.via (hL ..) ?_ | assumption | exact KK.rf | refine KK.i (nMd rfl) ?_ | refine KK.j (nMd rfl) ?_ | refine KK.a (nMd rfl) ?_ | refine KK.b (nMd rfl) ?_ | refine KK.c (nMd rfl) ?_)
set_option maxRecDepth 20000 in
theorem k_b_M_findNeeds_50_6 (L : Nat → Int → Int → G2 → Option (G2)) (i1 : Int) (i2 : Int) (g : G2) (hL : ∀ x0 x1 x2 g, KV cM g (L x0 x1 x2 g)) : KV cM g (b_M_findNeeds_50_6 L i1 i2 g) := by
  unfold b_M_findNeeds_50_6
  repeat' (with_reducible first | refine KV.ite ?_ ?_ | refine KV.bd ?_ (fun _ _ _ => ?_) | refine KV.bind ?_ (fun _ _ => ?_) | exact KV.no | refine KV.so ?_ | refine KO.via (k_f_M_isNeeded_50 ..) ?_ | refine KV.via (k_f_M_isNeeded_50 ..) ?_ | refine KV.via (hL ..) ?_ | assumption | exact KK.rf | refine KK.i (nMd rfl) ?_ | refine KK.j (nMd rfl) ?_ | refine KK.a (nMd rfl) ?_ | refine KK.b (nMd rfl) ?_ | refine KK.c (nMd rfl) ?_)
set_option maxRecDepth 20000 in
theorem k_b_M_findNeeds_50_7 (L : Nat → Int → Int → G2 → Option (G2)) (i1 : Int) (i2 : Int) (g : G2) (hL : ∀ x0 x1 x2 g, KV cM g (L x0 x1 x2 g)) : KV cM g (b_M_findNeeds_50_7 L i1 i2 g) := by
  unfold b_M_findNeeds_50_7
  repeat' (with_reducible first | refine KV.ite ?_ ?_ | refine KV.bd ?_ (fun _ _ _ => ?_) | refine KV.bind ?_ (fun _ _ => ?_) | exact KV.no | refine KV.so ?_ | refine KV.via (hL ..) ?_ | assumption | exact KK.rf | refine KK.i (nMd rfl) ?_ | refine KK.j (nMd rfl) ?_ | refine KK.a (nMd rfl) ?_ | refine KK.b (nMd rfl) ?_ | refine KK.c (nMd rfl) ?_)
set_option maxRecDepth 20000 in
theorem k_b_M_findNeeds_50_8 (L : Nat → Int → Int → G2 → Option (G2)) (i1 : Int) (i2 : Int) (g : G2) (hL : ∀ x0 x1 x2 g, KV cM g (L x0 x1 x2 g)) : KV cM g (b_M_findNeeds_50_8 L i1 i2 g) := by
  unfold b_M_findNeeds_50_8
  repeat' (with_reducible first | refine KV.ite ?_ ?_ | refine KV.bd ?_ (fun _ _ _ => ?_) | refine KV.bind ?_ (fun _ _ => ?_) | exact KV.no | refine KV.so ?_ | refine KV.via (hL ..) ?_ | assumption | exact KK.rf | refine KK.i (nMd rfl) ?_ | refine KK.j (nMd rfl) ?_ | refine KK.a (nMd rfl) ?_ | refine KK.b (nMd rfl) ?_ | refine KK.c (nMd rfl) ?_)
set_option maxRecDepth 20000 in
theorem k_l_M_findNeeds_50 : ∀ (n : Nat) (x0 : Nat) (x1 : Int) (x2 : Int) (g : G2), KV cM g (l_M_findNeeds_50 n x0 x1 x2 g) := by
  intro n
  induction n with
  | zero => intros; exact KV.no
  | succ n ih =>
    intro x0 x1 x2 g
    unfold l_M_findNeeds_50
    try dsimp only
    first | (split <;> (first  | exact k_b_M_findNeeds_50_0 _ _ _ _ ih | exact k_b_M_findNeeds_50_1 _ _ _ _ ih | exact k_b_M_findNeeds_50_2 _ _ _ _ ih | exact k_b_M_findNeeds_50_3 _ _ _ _ ih | exact k_b_M_findNeeds_50_4 _ _ _ _ ih | exact k_b_M_findNeeds_50_5 _ _ _ _ ih | exact k_b_M_findNeeds_50_6 _ _ _ _ ih | exact k_b_M_findNeeds_50_7 _ _ _ _ ih | exact k_b_M_findNeeds_50_8 _ _ _ _ ih)) | (first  | exact k_b_M_findNeeds_50_0 _ _ _ _ ih | exact k_b_M_findNeeds_50_1 _ _ _ _ ih | exact k_b_M_findNeeds_50_2 _ _ _ _ ih | exact k_b_M_findNeeds_50_3 _ _ _ _ ih | exact k_b_M_findNeeds_50_4 _ _ _ _ ih | exact k_b_M_findNeeds_50_5 _ _ _ _ ih | exact k_b_M_findNeeds_50_6 _ _ _ _ ih | exact k_b_M_findNeeds_50_7 _ _ _ _ ih | exact k_b_M_findNeeds_50_8 _ _ _ _ ih)
set_option maxRecDepth 20000 in
theorem k_f_M_findNeeds_50 (g : G2) : KV cM g (f_M_findNeeds_50 g) := by
  unfold f_M_findNeeds_50
  repeat' (with_reducible first | refine KV.ite ?_ ?_ | refine KV.bd ?_ (fun _ _ _ => ?_) | refine KV.bind ?_ (fun _ _ => ?_) | exact KV.no | refine KV.so ?_ | refine KO.via (k_l_M_findNeeds_50 ..) ?_ | refine KV.via (k_l_M_findNeeds_50 ..) ?_ | assumption | exact KK.rf | refine KK.i (nMd rfl) ?_ | refine KK.j (nMd rfl) ?_ | refine KK.a (nMd rfl) ?_ | refine KK.b (nMd rfl) ?_ | refine KK.c (nMd rfl) ?_)
set_option maxRecDepth 20000 in
theorem k_b_M_begin_50_0 (L : Nat → Int → Int → G2 → Option (G2)) (i1 : Int) (i2 : Int) (g : G2) (hL : ∀ x0 x1 x2 g, KV cM g (L x0 x1 x2 g)) : KV cM g (b_M_begin_50_0 L i1 i2 g) := by
  unfold b_M_begin_50_0
  repeat' (with_reducible first | refine KV.ite ?_ ?_ | refine KV.bd ?_ (fun _ _ _ => ?_) | refine KV.bind ?_ (fun _ _ => ?_) | exact KV.no | refine KV.so ?_ | refine KV.via (hL ..) ?_ | assumption | exact KK.rf | refine KK.i (nMd rfl) ?_ | refine KK.j (nMd rfl) ?_ | refine KK.a (nMd rfl) ?_ | refine KK.b (nMd rfl) ?_ | refine KK.c (nMd rfl) ?_)
set_option maxRecDepth 20000 in
theorem k_l_M_begin_50 : ∀ (n : Nat) (x0 : Nat) (x1 : Int) (x2 : Int) (g : G2), KV cM g (l_M_begin_50 n x0 x1 x2 g) := by
  intro n
  induction n with
  | zero => intros; exact KV.no
  | succ n ih =>
    intro x0 x1 x2 g
    unfold l_M_begin_50
    try dsimp only
    first | (split <;> (first  | exact k_b_M_begin_50_0 _ _ _ _ ih)) | (first  | exact k_b_M_begin_50_0 _ _ _ _ ih)
set_option maxRecDepth 20000 in
theorem k_f_M_begin_50 (a1 : Int) (g : G2) : KV cM g (f_M_begin_50 a1 g) := by
  unfold f_M_begin_50
  repeat' (with_reducible first | refine KV.ite ?_ ?_ | refine KV.bd ?_ (fun _ _ _ => ?_) | refine KV.bind ?_ (fun _ _ => ?_) | exact KV.no | refine KV.so ?_ | refine KO.via (k_l_M_begin_50 ..) ?_ | refine KV.via (k_l_M_begin_50 ..) ?_ | assumption | exact KK.rf | refine KK.i (nMd rfl) ?_ | refine KK.j (nMd rfl) ?_ | refine KK.a (nMd rfl) ?_ | refine KK.b (nMd rfl) ?_ | refine KK.c (nMd rfl) ?_)
set_option maxRecDepth 20000 in
theorem k_f_M_isWord_50 (a1 : Int) (g : G2) : KO cM g (f_M_isWord_50 a1 g) := by
  unfold f_M_isWord_50
  repeat' (with_reducible first | refine KO.ite ?_ ?_ | refine KO.bd ?_ (fun _ _ _ => ?_) | refine KO.bind ?_ (fun _ _ => ?_) | exact KO.no | refine KO.so ?_ | refine KO.via (k_f_M_letter_50 ..) ?_ | refine KV.via (k_f_M_letter_50 ..) ?_ | assumption | exact KK.rf | refine KK.i (nMd rfl) ?_ | refine KK.j (nMd rfl) ?_ | refine KK.a (nMd rfl) ?_ | refine KK.b (nMd rfl) ?_ | refine KK.c (nMd rfl) ?_)
set_option maxRecDepth 20000 in
theorem k_f_M_lookUp_50 (g : G2) : KO cM g (f_M_lookUp_50 g) := by
  unfold f_M_lookUp_50
  repeat' (with_reducible first | refine KO.ite ?_ ?_ | refine KO.bd ?_ (fun _ _ _ => ?_) | refine KO.bind ?_ (fun _ _ => ?_) | exact KO.no | refine KO.so ?_ | refine KO.via (k_f_M_fail_50 ..) ?_ | refine KV.via (k_f_M_fail_50 ..) ?_ | refine KO.via (k_f_M_findWord_50 ..) ?_ | refine KV.via (k_f_M_findWord_50 ..) ?_ | assumption | exact KK.rf | refine KK.i (nMd rfl) ?_ | refine KK.j (nMd rfl) ?_ | refine KK.a (nMd rfl) ?_ | refine KK.b (nMd rfl) ?_ | refine KK.c (nMd rfl) ?_)
set_option maxRecDepth 20000 in
theorem k_f_M_hasRoom_50 (g : G2) : KO cM g (f_M_hasRoom_50 g) := by
  unfold f_M_hasRoom_50
  repeat' (with_reducible first | refine KO.ite ?_ ?_ | refine KO.bd ?_ (fun _ _ _ => ?_) | refine KO.bind ?_ (fun _ _ => ?_) | exact KO.no | refine KO.so ?_ | refine KO.via (k_f_M_fail_50 ..) ?_ | refine KV.via (k_f_M_fail_50 ..) ?_ | assumption | exact KK.rf | refine KK.i (nMd rfl) ?_ | refine KK.j (nMd rfl) ?_ | refine KK.a (nMd rfl) ?_ | refine KK.b (nMd rfl) ?_ | refine KK.c (nMd rfl) ?_)
set_option maxRecDepth 20000 in
theorem k_b_M_pushHypothesis_50_0 (L : Nat → Int → Int → G2 → Option (G2)) (i1 : Int) (i2 : Int) (g : G2) (hL : ∀ x0 x1 x2 g, KV cM g (L x0 x1 x2 g)) : KV cM g (b_M_pushHypothesis_50_0 L i1 i2 g) := by
  unfold b_M_pushHypothesis_50_0
  repeat' (with_reducible first | refine KV.ite ?_ ?_ | refine KV.bd ?_ (fun _ _ _ => ?_) | refine KV.bind ?_ (fun _ _ => ?_) | exact KV.no | refine KV.so ?_ | refine KV.via (hL ..) ?_ | assumption | exact KK.rf | refine KK.i (nMd rfl) ?_ | refine KK.j (nMd rfl) ?_ | refine KK.a (nMd rfl) ?_ | refine KK.b (nMd rfl) ?_ | refine KK.c (nMd rfl) ?_)
set_option maxRecDepth 20000 in
theorem k_l_M_pushHypothesis_50 : ∀ (n : Nat) (x0 : Nat) (x1 : Int) (x2 : Int) (g : G2), KV cM g (l_M_pushHypothesis_50 n x0 x1 x2 g) := by
  intro n
  induction n with
  | zero => intros; exact KV.no
  | succ n ih =>
    intro x0 x1 x2 g
    unfold l_M_pushHypothesis_50
    try dsimp only
    first | (split <;> (first  | exact k_b_M_pushHypothesis_50_0 _ _ _ _ ih)) | (first  | exact k_b_M_pushHypothesis_50_0 _ _ _ _ ih)
set_option maxRecDepth 20000 in
theorem k_f_M_pushHypothesis_50 (a1 : Int) (g : G2) : KV cM g (f_M_pushHypothesis_50 a1 g) := by
  unfold f_M_pushHypothesis_50
  repeat' (with_reducible first | refine KV.ite ?_ ?_ | refine KV.bd ?_ (fun _ _ _ => ?_) | refine KV.bind ?_ (fun _ _ => ?_) | exact KV.no | refine KV.so ?_ | refine KO.via (k_f_M_hasRoom_50 ..) ?_ | refine KV.via (k_f_M_hasRoom_50 ..) ?_ | refine KO.via (k_l_M_pushHypothesis_50 ..) ?_ | refine KV.via (k_l_M_pushHypothesis_50 ..) ?_ | assumption | exact KK.rf | refine KK.i (nMd rfl) ?_ | refine KK.j (nMd rfl) ?_ | refine KK.a (nMd rfl) ?_ | refine KK.b (nMd rfl) ?_ | refine KK.c (nMd rfl) ?_)
set_option maxRecDepth 20000 in
theorem k_f_M_tally_50 (a1 : Int) (g : G2) : KV cM g (f_M_tally_50 a1 g) := by
  unfold f_M_tally_50
  repeat' (with_reducible first | refine KV.ite ?_ ?_ | refine KV.bd ?_ (fun _ _ _ => ?_) | refine KV.bind ?_ (fun _ _ => ?_) | exact KV.no | refine KV.so ?_ | assumption | exact KK.rf | refine KK.i (nMd rfl) ?_ | refine KK.j (nMd rfl) ?_ | refine KK.a (nMd rfl) ?_ | refine KK.b (nMd rfl) ?_ | refine KK.c (nMd rfl) ?_)
set_option maxRecDepth 20000 in
theorem k_b_M_replace_50_0 (L : Nat → Int → Int → Int → Int → Int → G2 → Option (Int × G2)) (i1 : Int) (i2 : Int) (i3 : Int) (i5 : Int) (i6 : Int) (g : G2) (hL : ∀ x0 x1 x2 x3 x4 x5 g, KO cM g (L x0 x1 x2 x3 x4 x5 g)) : KO cM g (b_M_replace_50_0 L i1 i2 i3 i5 i6 g) := by
  unfold b_M_replace_50_0
  repeat' (with_reducible first | refine KO.ite ?_ ?_ | refine KO.bd ?_ (fun _ _ _ => ?_) | refine KO.bind ?_ (fun _ _ => ?_) | exact KO.no | refine KO.so ?_ | refine KO.via (hL ..) ?_ | assumption | exact KK.rf | refine KK.i (nMd rfl) ?_ | refine KK.j (nMd rfl) ?_ | refine KK.a (nMd rfl) ?_ | refine KK.b (nMd rfl) ?_ | refine KK.c (nMd rfl) ?_)
set_option maxRecDepth 20000 in
theorem k_b_M_replace_50_1 (L : Nat → Int → Int → Int → Int → Int → G2 → Option (Int × G2)) (i1 : Int) (i2 : Int) (i3 : Int) (i5 : Int) (i6 : Int) (g : G2) (hL : ∀ x0 x1 x2 x3 x4 x5 g, KO cM g (L x0 x1 x2 x3 x4 x5 g)) : KO cM g (b_M_replace_50_1 L i1 i2 i3 i5 i6 g) := by
  unfold b_M_replace_50_1
  repeat' (with_reducible first | refine KO.ite ?_ ?_ | refine KO.bd ?_ (fun _ _ _ => ?_) | refine KO.bind ?_ (fun _ _ => ?_) | exact KO.no | refine KO.so ?_ | refine KO.via (hL ..) ?_ | assumption | exact KK.rf | refine KK.i (nMd rfl) ?_ | refine KK.j (nMd rfl) ?_ | refine KK.a (nMd rfl) ?_ | refine KK.b (nMd rfl) ?_ | refine KK.c (nMd rfl) ?_)
set_option maxRecDepth 20000 in
theorem k_l_M_replace_50 : ∀ (n : Nat) (x0 : Nat) (x1 : Int) (x2 : Int) (x3 : Int) (x4 : Int) (x5 : Int) (g : G2), KO cM g (l_M_replace_50 n x0 x1 x2 x3 x4 x5 g) := by
  intro n
  induction n with
  | zero => intros; exact KO.no
  | succ n ih =>
    intro x0 x1 x2 x3 x4 x5 g
    unfold l_M_replace_50
    try dsimp only
    first | (split <;> (first  | exact k_b_M_replace_50_0 _ _ _ _ _ _ _ ih | exact k_b_M_replace_50_1 _ _ _ _ _ _ _ ih)) | (first  | exact k_b_M_replace_50_0 _ _ _ _ _ _ _ ih | exact k_b_M_replace_50_1 _ _ _ _ _ _ _ ih)
set_option maxRecDepth 20000 in
theorem k_f_M_replace_50 (a1 : Int) (g : G2) : KO cM g (f_M_replace_50 a1 g) := by
  unfold f_M_replace_50
  repeat' (with_reducible first | refine KO.ite ?_ ?_ | refine KO.bd ?_ (fun _ _ _ => ?_) | refine KO.bind ?_ (fun _ _ => ?_) | exact KO.no | refine KO.so ?_ | refine KO.via (k_l_M_replace_50 ..) ?_ | refine KV.via (k_l_M_replace_50 ..) ?_ | assumption | exact KK.rf | refine KK.i (nMd rfl) ?_ | refine KK.j (nMd rfl) ?_ | refine KK.a (nMd rfl) ?_ | refine KK.b (nMd rfl) ?_ | refine KK.c (nMd rfl) ?_)
set_option maxRecDepth 20000 in
theorem k_b_M_isMade_50_0 (L : Nat → Int → Int → Int → Int → G2 → Option (Int × G2)) (i1 : Int) (i2 : Int) (i3 : Int) (i4 : Int) (g : G2) (hL : ∀ x0 x1 x2 x3 x4 g, KO cM g (L x0 x1 x2 x3 x4 g)) : KO cM g (b_M_isMade_50_0 L i1 i2 i3 i4 g) := by
  unfold b_M_isMade_50_0
  repeat' (with_reducible first | refine KO.ite ?_ ?_ | refine KO.bd ?_ (fun _ _ _ => ?_) | refine KO.bind ?_ (fun _ _ => ?_) | exact KO.no | refine KO.so ?_ | refine KO.via (hL ..) ?_ | assumption | exact KK.rf | refine KK.i (nMd rfl) ?_ | refine KK.j (nMd rfl) ?_ | refine KK.a (nMd rfl) ?_ | refine KK.b (nMd rfl) ?_ | refine KK.c (nMd rfl) ?_)
set_option maxRecDepth 20000 in
theorem k_l_M_isMade_50 : ∀ (n : Nat) (x0 : Nat) (x1 : Int) (x2 : Int) (x3 : Int) (x4 : Int) (g : G2), KO cM g (l_M_isMade_50 n x0 x1 x2 x3 x4 g) := by
  intro n
  induction n with
  | zero => intros; exact KO.no
  | succ n ih =>
    intro x0 x1 x2 x3 x4 g
    unfold l_M_isMade_50
    try dsimp only
    first | (split <;> (first  | exact k_b_M_isMade_50_0 _ _ _ _ _ _ ih)) | (first  | exact k_b_M_isMade_50_0 _ _ _ _ _ _ ih)
set_option maxRecDepth 20000 in
theorem k_f_M_isMade_50 (a1 : Int) (a2 : Int) (g : G2) : KO cM g (f_M_isMade_50 a1 a2 g) := by
  unfold f_M_isMade_50
  repeat' (with_reducible first | refine KO.ite ?_ ?_ | refine KO.bd ?_ (fun _ _ _ => ?_) | refine KO.bind ?_ (fun _ _ => ?_) | exact KO.no | refine KO.so ?_ | refine KO.via (k_l_M_isMade_50 ..) ?_ | refine KV.via (k_l_M_isMade_50 ..) ?_ | assumption | exact KK.rf | refine KK.i (nMd rfl) ?_ | refine KK.j (nMd rfl) ?_ | refine KK.a (nMd rfl) ?_ | refine KK.b (nMd rfl) ?_ | refine KK.c (nMd rfl) ?_)
set_option maxRecDepth 20000 in
theorem k_b_M_areApart_50_0 (L : Nat → Int → Int → Int → G2 → Option (Int × G2)) (i1 : Int) (i2 : Int) (i3 : Int) (g : G2) (hL : ∀ x0 x1 x2 x3 g, KO cM g (L x0 x1 x2 x3 g)) : KO cM g (b_M_areApart_50_0 L i1 i2 i3 g) := by
  unfold b_M_areApart_50_0
  repeat' (with_reducible first | refine KO.ite ?_ ?_ | refine KO.bd ?_ (fun _ _ _ => ?_) | refine KO.bind ?_ (fun _ _ => ?_) | exact KO.no | refine KO.so ?_ | refine KO.via (hL ..) ?_ | assumption | exact KK.rf | refine KK.i (nMd rfl) ?_ | refine KK.j (nMd rfl) ?_ | refine KK.a (nMd rfl) ?_ | refine KK.b (nMd rfl) ?_ | refine KK.c (nMd rfl) ?_)
set_option maxRecDepth 20000 in
theorem k_l_M_areApart_50 : ∀ (n : Nat) (x0 : Nat) (x1 : Int) (x2 : Int) (x3 : Int) (g : G2), KO cM g (l_M_areApart_50 n x0 x1 x2 x3 g) := by
  intro n
  induction n with
  | zero => intros; exact KO.no
  | succ n ih =>
    intro x0 x1 x2 x3 g
    unfold l_M_areApart_50
    try dsimp only
    first | (split <;> (first  | exact k_b_M_areApart_50_0 _ _ _ _ _ ih)) | (first  | exact k_b_M_areApart_50_0 _ _ _ _ _ ih)
set_option maxRecDepth 20000 in
theorem k_f_M_areApart_50 (a1 : Int) (a2 : Int) (g : G2) : KO cM g (f_M_areApart_50 a1 a2 g) := by
  unfold f_M_areApart_50
  repeat' (with_reducible first | refine KO.ite ?_ ?_ | refine KO.bd ?_ (fun _ _ _ => ?_) | refine KO.bind ?_ (fun _ _ => ?_) | exact KO.no | refine KO.so ?_ | refine KO.via (k_l_M_areApart_50 ..) ?_ | refine KV.via (k_l_M_areApart_50 ..) ?_ | assumption | exact KK.rf | refine KK.i (nMd rfl) ?_ | refine KK.j (nMd rfl) ?_ | refine KK.a (nMd rfl) ?_ | refine KK.b (nMd rfl) ?_ | refine KK.c (nMd rfl) ?_)
set_option maxRecDepth 20000 in
theorem k_b_M_allApart_50_0 (L : Nat → Int → Int → Int → Int → G2 → Option (Int × G2)) (i1 : Int) (i2 : Int) (i3 : Int) (i4 : Int) (g : G2) (hL : ∀ x0 x1 x2 x3 x4 g, KO cM g (L x0 x1 x2 x3 x4 g)) : KO cM g (b_M_allApart_50_0 L i1 i2 i3 i4 g) := by
  unfold b_M_allApart_50_0
  repeat' (with_reducible first | refine KO.ite ?_ ?_ | refine KO.bd ?_ (fun _ _ _ => ?_) | refine KO.bind ?_ (fun _ _ => ?_) | exact KO.no | refine KO.so ?_ | refine KO.via (hL ..) ?_ | assumption | exact KK.rf | refine KK.i (nMd rfl) ?_ | refine KK.j (nMd rfl) ?_ | refine KK.a (nMd rfl) ?_ | refine KK.b (nMd rfl) ?_ | refine KK.c (nMd rfl) ?_)
set_option maxRecDepth 20000 in
theorem k_b_M_allApart_50_1 (L : Nat → Int → Int → Int → Int → G2 → Option (Int × G2)) (i1 : Int) (i2 : Int) (i3 : Int) (i4 : Int) (g : G2) (hL : ∀ x0 x1 x2 x3 x4 g, KO cM g (L x0 x1 x2 x3 x4 g)) : KO cM g (b_M_allApart_50_1 L i1 i2 i3 i4 g) := by
  unfold b_M_allApart_50_1
  repeat' (with_reducible first | refine KO.ite ?_ ?_ | refine KO.bd ?_ (fun _ _ _ => ?_) | refine KO.bind ?_ (fun _ _ => ?_) | exact KO.no | refine KO.so ?_ | refine KO.via (k_f_M_areApart_50 ..) ?_ | refine KV.via (k_f_M_areApart_50 ..) ?_ | refine KO.via (hL ..) ?_ | assumption | exact KK.rf | refine KK.i (nMd rfl) ?_ | refine KK.j (nMd rfl) ?_ | refine KK.a (nMd rfl) ?_ | refine KK.b (nMd rfl) ?_ | refine KK.c (nMd rfl) ?_)
set_option maxRecDepth 20000 in
theorem k_b_M_allApart_50_2 (L : Nat → Int → Int → Int → Int → G2 → Option (Int × G2)) (i1 : Int) (i2 : Int) (i3 : Int) (i4 : Int) (g : G2) (hL : ∀ x0 x1 x2 x3 x4 g, KO cM g (L x0 x1 x2 x3 x4 g)) : KO cM g (b_M_allApart_50_2 L i1 i2 i3 i4 g) := by
  unfold b_M_allApart_50_2
  repeat' (with_reducible first | refine KO.ite ?_ ?_ | refine KO.bd ?_ (fun _ _ _ => ?_) | refine KO.bind ?_ (fun _ _ => ?_) | exact KO.no | refine KO.so ?_ | refine KO.via (hL ..) ?_ | assumption | exact KK.rf | refine KK.i (nMd rfl) ?_ | refine KK.j (nMd rfl) ?_ | refine KK.a (nMd rfl) ?_ | refine KK.b (nMd rfl) ?_ | refine KK.c (nMd rfl) ?_)
set_option maxRecDepth 20000 in
theorem k_b_M_allApart_50_3 (L : Nat → Int → Int → Int → Int → G2 → Option (Int × G2)) (i1 : Int) (i2 : Int) (i3 : Int) (i4 : Int) (g : G2) (hL : ∀ x0 x1 x2 x3 x4 g, KO cM g (L x0 x1 x2 x3 x4 g)) : KO cM g (b_M_allApart_50_3 L i1 i2 i3 i4 g) := by
  unfold b_M_allApart_50_3
  repeat' (with_reducible first | refine KO.ite ?_ ?_ | refine KO.bd ?_ (fun _ _ _ => ?_) | refine KO.bind ?_ (fun _ _ => ?_) | exact KO.no | refine KO.so ?_ | refine KO.via (hL ..) ?_ | assumption | exact KK.rf | refine KK.i (nMd rfl) ?_ | refine KK.j (nMd rfl) ?_ | refine KK.a (nMd rfl) ?_ | refine KK.b (nMd rfl) ?_ | refine KK.c (nMd rfl) ?_)
set_option maxRecDepth 20000 in
theorem k_l_M_allApart_50 : ∀ (n : Nat) (x0 : Nat) (x1 : Int) (x2 : Int) (x3 : Int) (x4 : Int) (g : G2), KO cM g (l_M_allApart_50 n x0 x1 x2 x3 x4 g) := by
  intro n
  induction n with
  | zero => intros; exact KO.no
  | succ n ih =>
    intro x0 x1 x2 x3 x4 g
    unfold l_M_allApart_50
    try dsimp only
    first | (split <;> (first  | exact k_b_M_allApart_50_0 _ _ _ _ _ _ ih | exact k_b_M_allApart_50_1 _ _ _ _ _ _ ih | exact k_b_M_allApart_50_2 _ _ _ _ _ _ ih | exact k_b_M_allApart_50_3 _ _ _ _ _ _ ih)) | (first  | exact k_b_M_allApart_50_0 _ _ _ _ _ _ ih | exact k_b_M_allApart_50_1 _ _ _ _ _ _ ih | exact k_b_M_allApart_50_2 _ _ _ _ _ _ ih | exact k_b_M_allApart_50_3 _ _ _ _ _ _ ih)
set_option maxRecDepth 20000 in
theorem k_f_M_allApart_50 (a1 : Int) (a2 : Int) (g : G2) : KO cM g (f_M_allApart_50 a1 a2 g) := by
  unfold f_M_allApart_50
  repeat' (with_reducible first | refine KO.ite ?_ ?_ | refine KO.bd ?_ (fun _ _ _ => ?_) | refine KO.bind ?_ (fun _ _ => ?_) | exact KO.no | refine KO.so ?_ | refine KO.via (k_l_M_allApart_50 ..) ?_ | refine KV.via (k_l_M_allApart_50 ..) ?_ | assumption | exact KK.rf | refine KK.i (nMd rfl) ?_ | refine KK.j (nMd rfl) ?_ | refine KK.a (nMd rfl) ?_ | refine KK.b (nMd rfl) ?_ | refine KK.c (nMd rfl) ?_)
set_option maxRecDepth 20000 in
theorem k_b_M_apply_50_0 (L : Nat → Int → Int → Int → Int → Int → G2 → Option (Int × G2)) (i1 : Int) (i2 : Int) (i3 : Int) (i4 : Int) (i5 : Int) (g : G2) (hL : ∀ x0 x1 x2 x3 x4 x5 g, KO cM g (L x0 x1 x2 x3 x4 x5 g)) : KO cM g (b_M_apply_50_0 L i1 i2 i3 i4 i5 g) := by
  unfold b_M_apply_50_0
  repeat' (with_reducible first | refine KO.ite ?_ ?_ | refine KO.bd ?_ (fun _ _ _ => ?_) | refine KO.bind ?_ (fun _ _ => ?_) | exact KO.no | refine KO.so ?_ | refine KO.via (k_f_M_isMade_50 ..) ?_ | refine KV.via (k_f_M_isMade_50 ..) ?_ | refine KO.via (k_f_M_replace_50 ..) ?_ | refine KV.via (k_f_M_replace_50 ..) ?_ | refine KO.via (hL ..) ?_ | assumption | exact KK.rf | refine KK.i (nMd rfl) ?_ | refine KK.j (nMd rfl) ?_ | refine KK.a (nMd rfl) ?_ | refine KK.b (nMd rfl) ?_ | refine KK.c (nMd rfl) ?_)
set_option maxRecDepth 20000 in
theorem k_b_M_apply_50_1 (L : Nat → Int → Int → Int → Int → Int → G2 → Option (Int × G2)) (i1 : Int) (i2 : Int) (i3 : Int) (i4 : Int) (i5 : Int) (g : G2) (hL : ∀ x0 x1 x2 x3 x4 x5 g, KO cM g (L x0 x1 x2 x3 x4 x5 g)) : KO cM g (b_M_apply_50_1 L i1 i2 i3 i4 i5 g) := by
  unfold b_M_apply_50_1
  repeat' (with_reducible first | refine KO.ite ?_ ?_ | refine KO.bd ?_ (fun _ _ _ => ?_) | refine KO.bind ?_ (fun _ _ => ?_) | exact KO.no | refine KO.so ?_ | refine KO.via (hL ..) ?_ | assumption | exact KK.rf | refine KK.i (nMd rfl) ?_ | refine KK.j (nMd rfl) ?_ | refine KK.a (nMd rfl) ?_ | refine KK.b (nMd rfl) ?_ | refine KK.c (nMd rfl) ?_)
set_option maxRecDepth 20000 in
theorem k_b_M_apply_50_2 (L : Nat → Int → Int → Int → Int → Int → G2 → Option (Int × G2)) (i1 : Int) (i2 : Int) (i3 : Int) (i4 : Int) (i5 : Int) (g : G2) (hL : ∀ x0 x1 x2 x3 x4 x5 g, KO cM g (L x0 x1 x2 x3 x4 x5 g)) : KO cM g (b_M_apply_50_2 L i1 i2 i3 i4 i5 g) := by
  unfold b_M_apply_50_2
  repeat' (with_reducible first | refine KO.ite ?_ ?_ | refine KO.bd ?_ (fun _ _ _ => ?_) | refine KO.bind ?_ (fun _ _ => ?_) | exact KO.no | refine KO.so ?_ | refine KO.via (k_f_M_allApart_50 ..) ?_ | refine KV.via (k_f_M_allApart_50 ..) ?_ | refine KO.via (k_f_M_replace_50 ..) ?_ | refine KV.via (k_f_M_replace_50 ..) ?_ | refine KO.via (hL ..) ?_ | assumption | exact KK.rf | refine KK.i (nMd rfl) ?_ | refine KK.j (nMd rfl) ?_ | refine KK.a (nMd rfl) ?_ | refine KK.b (nMd rfl) ?_ | refine KK.c (nMd rfl) ?_)
set_option maxRecDepth 20000 in
theorem k_b_M_apply_50_3 (L : Nat → Int → Int → Int → Int → Int → G2 → Option (Int × G2)) (i1 : Int) (i2 : Int) (i3 : Int) (i4 : Int) (i5 : Int) (g : G2) (hL : ∀ x0 x1 x2 x3 x4 x5 g, KO cM g (L x0 x1 x2 x3 x4 x5 g)) : KO cM g (b_M_apply_50_3 L i1 i2 i3 i4 i5 g) := by
  unfold b_M_apply_50_3
  repeat' (with_reducible first | refine KO.ite ?_ ?_ | refine KO.bd ?_ (fun _ _ _ => ?_) | refine KO.bind ?_ (fun _ _ => ?_) | exact KO.no | refine KO.so ?_ | refine KO.via (hL ..) ?_ | assumption | exact KK.rf | refine KK.i (nMd rfl) ?_ | refine KK.j (nMd rfl) ?_ | refine KK.a (nMd rfl) ?_ | refine KK.b (nMd rfl) ?_ | refine KK.c (nMd rfl) ?_)
set_option maxRecDepth 20000 in
theorem k_b_M_apply_50_4 (L : Nat → Int → Int → Int → Int → Int → G2 → Option (Int × G2)) (i1 : Int) (i2 : Int) (i3 : Int) (i4 : Int) (i5 : Int) (g : G2) (hL : ∀ x0 x1 x2 x3 x4 x5 g, KO cM g (L x0 x1 x2 x3 x4 x5 g)) : KO cM g (b_M_apply_50_4 L i1 i2 i3 i4 i5 g) := by
  unfold b_M_apply_50_4
  repeat' (with_reducible first | refine KO.ite ?_ ?_ | refine KO.bd ?_ (fun _ _ _ => ?_) | refine KO.bind ?_ (fun _ _ => ?_) | exact KO.no | refine KO.so ?_ | refine KO.via (hL ..) ?_ | assumption | exact KK.rf | refine KK.i (nMd rfl) ?_ | refine KK.j (nMd rfl) ?_ | refine KK.a (nMd rfl) ?_ | refine KK.b (nMd rfl) ?_ | refine KK.c (nMd rfl) ?_)
set_option maxRecDepth 20000 in
theorem k_l_M_apply_50 : ∀ (n : Nat) (x0 : Nat) (x1 : Int) (x2 : Int) (x3 : Int) (x4 : Int) (x5 : Int) (g : G2), KO cM g (l_M_apply_50 n x0 x1 x2 x3 x4 x5 g) := by
  intro n
  induction n with
  | zero => intros; exact KO.no
  | succ n ih =>
    intro x0 x1 x2 x3 x4 x5 g
    unfold l_M_apply_50
    try dsimp only
    first | (split <;> (first  | exact k_b_M_apply_50_0 _ _ _ _ _ _ _ ih | exact k_b_M_apply_50_1 _ _ _ _ _ _ _ ih | exact k_b_M_apply_50_2 _ _ _ _ _ _ _ ih | exact k_b_M_apply_50_3 _ _ _ _ _ _ _ ih | exact k_b_M_apply_50_4 _ _ _ _ _ _ _ ih)) | (first  | exact k_b_M_apply_50_0 _ _ _ _ _ _ _ ih | exact k_b_M_apply_50_1 _ _ _ _ _ _ _ ih | exact k_b_M_apply_50_2 _ _ _ _ _ _ _ ih | exact k_b_M_apply_50_3 _ _ _ _ _ _ _ ih | exact k_b_M_apply_50_4 _ _ _ _ _ _ _ ih)
set_option maxRecDepth 20000 in
theorem k_f_M_apply_50 (a1 : Int) (g : G2) : KO cM g (f_M_apply_50 a1 g) := by
  unfold f_M_apply_50
  repeat' (with_reducible first | refine KO.ite ?_ ?_ | refine KO.bd ?_ (fun _ _ _ => ?_) | refine KO.bind ?_ (fun _ _ => ?_) | exact KO.no | refine KO.so ?_ | refine KO.via (k_l_M_apply_50 ..) ?_ | refine KV.via (k_l_M_apply_50 ..) ?_ | assumption | exact KK.rf | refine KK.i (nMd rfl) ?_ | refine KK.j (nMd rfl) ?_ | refine KK.a (nMd rfl) ?_ | refine KK.b (nMd rfl) ?_ | refine KK.c (nMd rfl) ?_)
set_option maxRecDepth 20000 in
theorem k_f_M_step_50 (a1 : Int) (a2 : Int) (g : G2) : KV cM g (f_M_step_50 a1 a2 g) := by
  unfold f_M_step_50
  repeat' (with_reducible first | refine KV.ite ?_ ?_ | refine KV.bd ?_ (fun _ _ _ => ?_) | refine KV.bind ?_ (fun _ _ => ?_) | exact KV.no | refine KV.so ?_ | refine KO.via (k_f_M_apply_50 ..) ?_ | refine KV.via (k_f_M_apply_50 ..) ?_ | refine KO.via (k_f_M_fail_50 ..) ?_ | refine KV.via (k_f_M_fail_50 ..) ?_ | refine KO.via (k_f_M_pushHypothesis_50 ..) ?_ | refine KV.via (k_f_M_pushHypothesis_50 ..) ?_ | refine KO.via (k_f_M_tally_50 ..) ?_ | refine KV.via (k_f_M_tally_50 ..) ?_ | assumption | exact KK.rf | refine KK.i (nMd rfl) ?_ | refine KK.j (nMd rfl) ?_ | refine KK.a (nMd rfl) ?_ | refine KK.b (nMd rfl) ?_ | refine KK.c (nMd rfl) ?_)
set_option maxRecDepth 20000 in
theorem k_b_M_readSteps_50_0 (L : Nat → Int → G2 → Option (G2)) (i1 : Int) (g : G2) (hL : ∀ x0 x1 g, KV cM g (L x0 x1 g)) : KV cM g (b_M_readSteps_50_0 L i1 g) := by
  unfold b_M_readSteps_50_0
  repeat' (with_reducible first | refine KV.ite ?_ ?_ | refine KV.bd ?_ (fun _ _ _ => ?_) | refine KV.bind ?_ (fun _ _ => ?_) | exact KV.no | refine KV.so ?_ | refine KO.via (k_f_M_fail_50 ..) ?_ | refine KV.via (k_f_M_fail_50 ..) ?_ | refine KO.via (k_f_M_isWord_50 ..) ?_ | refine KV.via (k_f_M_isWord_50 ..) ?_ | refine KO.via (k_f_M_lookUp_50 ..) ?_ | refine KV.via (k_f_M_lookUp_50 ..) ?_ | refine KO.via (k_f_M_need_50 ..) ?_ | refine KV.via (k_f_M_need_50 ..) ?_ | refine KO.via (k_f_M_step_50 ..) ?_ | refine KV.via (k_f_M_step_50 ..) ?_ | refine KV.via (hL ..) ?_ | assumption | exact KK.rf | refine KK.i (nMd rfl) ?_ | refine KK.j (nMd rfl) ?_ | refine KK.a (nMd rfl) ?_ | refine KK.b (nMd rfl) ?_ | refine KK.c (nMd rfl) ?_)
set_option maxRecDepth 20000 in
theorem k_l_M_readSteps_50 : ∀ (n : Nat) (x0 : Nat) (x1 : Int) (g : G2), KV cM g (l_M_readSteps_50 n x0 x1 g) := by
  intro n
  induction n with
  | zero => intros; exact KV.no
  | succ n ih =>
    intro x0 x1 g
    unfold l_M_readSteps_50
    try dsimp only
    first | (split <;> (first  | exact k_b_M_readSteps_50_0 _ _ _ ih)) | (first  | exact k_b_M_readSteps_50_0 _ _ _ ih)
set_option maxRecDepth 20000 in
theorem k_f_M_readSteps_50 (a1 : Int) (g : G2) : KV cM g (f_M_readSteps_50 a1 g) := by
  unfold f_M_readSteps_50
  repeat' (with_reducible first | refine KV.ite ?_ ?_ | refine KV.bd ?_ (fun _ _ _ => ?_) | refine KV.bind ?_ (fun _ _ => ?_) | exact KV.no | refine KV.so ?_ | refine KO.via (k_l_M_readSteps_50 ..) ?_ | refine KV.via (k_l_M_readSteps_50 ..) ?_ | assumption | exact KK.rf | refine KK.i (nMd rfl) ?_ | refine KK.j (nMd rfl) ?_ | refine KK.a (nMd rfl) ?_ | refine KK.b (nMd rfl) ?_ | refine KK.c (nMd rfl) ?_)
set_option maxRecDepth 20000 in
theorem k_b_M_finish_50_0 (L : Nat → Int → Int → G2 → Option (G2)) (i1 : Int) (i2 : Int) (g : G2) (hL : ∀ x0 x1 x2 g, KV cM g (L x0 x1 x2 g)) : KV cM g (b_M_finish_50_0 L i1 i2 g) := by
  unfold b_M_finish_50_0
  repeat' (with_reducible first | refine KV.ite ?_ ?_ | refine KV.bd ?_ (fun _ _ _ => ?_) | refine KV.bind ?_ (fun _ _ => ?_) | exact KV.no | refine KV.so ?_ | refine KO.via (k_f_M_fail_50 ..) ?_ | refine KV.via (k_f_M_fail_50 ..) ?_ | refine KV.via (hL ..) ?_ | assumption | exact KK.rf | refine KK.i (nMd rfl) ?_ | refine KK.j (nMd rfl) ?_ | refine KK.a (nMd rfl) ?_ | refine KK.b (nMd rfl) ?_ | refine KK.c (nMd rfl) ?_)
set_option maxRecDepth 20000 in
theorem k_l_M_finish_50 : ∀ (n : Nat) (x0 : Nat) (x1 : Int) (x2 : Int) (g : G2), KV cM g (l_M_finish_50 n x0 x1 x2 g) := by
  intro n
  induction n with
  | zero => intros; exact KV.no
  | succ n ih =>
    intro x0 x1 x2 g
    unfold l_M_finish_50
    try dsimp only
    first | (split <;> (first  | exact k_b_M_finish_50_0 _ _ _ _ ih)) | (first  | exact k_b_M_finish_50_0 _ _ _ _ ih)
set_option maxRecDepth 20000 in
theorem k_f_M_finish_50 (g : G2) : KV cM g (f_M_finish_50 g) := by
  unfold f_M_finish_50
  repeat' (with_reducible first | refine KV.ite ?_ ?_ | refine KV.bd ?_ (fun _ _ _ => ?_) | refine KV.bind ?_ (fun _ _ => ?_) | exact KV.no | refine KV.so ?_ | refine KO.via (k_f_M_fail_50 ..) ?_ | refine KV.via (k_f_M_fail_50 ..) ?_ | refine KO.via (k_l_M_finish_50 ..) ?_ | refine KV.via (k_l_M_finish_50 ..) ?_ | assumption | exact KK.rf | refine KK.i (nMd rfl) ?_ | refine KK.j (nMd rfl) ?_ | refine KK.a (nMd rfl) ?_ | refine KK.b (nMd rfl) ?_ | refine KK.c (nMd rfl) ?_)
set_option maxRecDepth 20000 in
theorem k_b_M_isMandatory_50_0 (L : Nat → Int → Int → Int → G2 → Option (Int × G2)) (i1 : Int) (i2 : Int) (i3 : Int) (g : G2) (hL : ∀ x0 x1 x2 x3 g, KO cM g (L x0 x1 x2 x3 g)) : KO cM g (b_M_isMandatory_50_0 L i1 i2 i3 g) := by
  unfold b_M_isMandatory_50_0
  repeat' (with_reducible first | refine KO.ite ?_ ?_ | refine KO.bd ?_ (fun _ _ _ => ?_) | refine KO.bind ?_ (fun _ _ => ?_) | exact KO.no | refine KO.so ?_ | refine KO.via (hL ..) ?_ | assumption | exact KK.rf | refine KK.i (nMd rfl) ?_ | refine KK.j (nMd rfl) ?_ | refine KK.a (nMd rfl) ?_ | refine KK.b (nMd rfl) ?_ | refine KK.c (nMd rfl) ?_)
set_option maxRecDepth 20000 in
theorem k_l_M_isMandatory_50 : ∀ (n : Nat) (x0 : Nat) (x1 : Int) (x2 : Int) (x3 : Int) (g : G2), KO cM g (l_M_isMandatory_50 n x0 x1 x2 x3 g) := by
  intro n
  induction n with
  | zero => intros; exact KO.no
  | succ n ih =>
    intro x0 x1 x2 x3 g
    unfold l_M_isMandatory_50
    try dsimp only
    first | (split <;> (first  | exact k_b_M_isMandatory_50_0 _ _ _ _ _ ih)) | (first  | exact k_b_M_isMandatory_50_0 _ _ _ _ _ ih)
set_option maxRecDepth 20000 in
theorem k_f_M_isMandatory_50 (a1 : Int) (a2 : Int) (g : G2) : KO cM g (f_M_isMandatory_50 a1 a2 g) := by
  unfold f_M_isMandatory_50
  repeat' (with_reducible first | refine KO.ite ?_ ?_ | refine KO.bd ?_ (fun _ _ _ => ?_) | refine KO.bind ?_ (fun _ _ => ?_) | exact KO.no | refine KO.so ?_ | refine KO.via (k_l_M_isMandatory_50 ..) ?_ | refine KV.via (k_l_M_isMandatory_50 ..) ?_ | assumption | exact KK.rf | refine KK.i (nMd rfl) ?_ | refine KK.j (nMd rfl) ?_ | refine KK.a (nMd rfl) ?_ | refine KK.b (nMd rfl) ?_ | refine KK.c (nMd rfl) ?_)
set_option maxRecDepth 20000 in
theorem k_b_M_readListed_50_0 (L : Nat → Int → Int → G2 → Option (G2)) (i1 : Int) (i2 : Int) (g : G2) (hL : ∀ x0 x1 x2 g, KV cM g (L x0 x1 x2 g)) : KV cM g (b_M_readListed_50_0 L i1 i2 g) := by
  unfold b_M_readListed_50_0
  repeat' (with_reducible first | refine KV.ite ?_ ?_ | refine KV.bd ?_ (fun _ _ _ => ?_) | refine KV.bind ?_ (fun _ _ => ?_) | exact KV.no | refine KV.so ?_ | refine KO.via (k_f_M_fail_50 ..) ?_ | refine KV.via (k_f_M_fail_50 ..) ?_ | refine KO.via (k_f_M_isMandatory_50 ..) ?_ | refine KV.via (k_f_M_isMandatory_50 ..) ?_ | refine KO.via (k_f_M_isWord_50 ..) ?_ | refine KV.via (k_f_M_isWord_50 ..) ?_ | refine KO.via (k_f_M_lookUp_50 ..) ?_ | refine KV.via (k_f_M_lookUp_50 ..) ?_ | refine KO.via (k_f_M_needName_50 ..) ?_ | refine KV.via (k_f_M_needName_50 ..) ?_ | refine KV.via (hL ..) ?_ | assumption | exact KK.rf | refine KK.i (nMd rfl) ?_ | refine KK.j (nMd rfl) ?_ | refine KK.a (nMd rfl) ?_ | refine KK.b (nMd rfl) ?_ | refine KK.c (nMd rfl) ?_)
set_option maxRecDepth 20000 in
theorem k_b_M_readListed_50_1 (L : Nat → Int → Int → G2 → Option (G2)) (i1 : Int) (i2 : Int) (g : G2) (hL : ∀ x0 x1 x2 g, KV cM g (L x0 x1 x2 g)) : KV cM g (b_M_readListed_50_1 L i1 i2 g) := by
  unfold b_M_readListed_50_1
  repeat' (with_reducible first | refine KV.ite ?_ ?_ | refine KV.bd ?_ (fun _ _ _ => ?_) | refine KV.bind ?_ (fun _ _ => ?_) | exact KV.no | refine KV.so ?_ | refine KO.via (k_f_M_fail_50 ..) ?_ | refine KV.via (k_f_M_fail_50 ..) ?_ | refine KV.via (hL ..) ?_ | assumption | exact KK.rf | refine KK.i (nMd rfl) ?_ | refine KK.j (nMd rfl) ?_ | refine KK.a (nMd rfl) ?_ | refine KK.b (nMd rfl) ?_ | refine KK.c (nMd rfl) ?_)
set_option maxRecDepth 20000 in
theorem k_b_M_readListed_50_2 (L : Nat → Int → Int → G2 → Option (G2)) (i1 : Int) (i2 : Int) (g : G2) (hL : ∀ x0 x1 x2 g, KV cM g (L x0 x1 x2 g)) : KV cM g (b_M_readListed_50_2 L i1 i2 g) := by
  unfold b_M_readListed_50_2
  repeat' (with_reducible first | refine KV.ite ?_ ?_ | refine KV.bd ?_ (fun _ _ _ => ?_) | refine KV.bind ?_ (fun _ _ => ?_) | exact KV.no | refine KV.so ?_ | refine KV.via (hL ..) ?_ | assumption | exact KK.rf | refine KK.i (nMd rfl) ?_ | refine KK.j (nMd rfl) ?_ | refine KK.a (nMd rfl) ?_ | refine KK.b (nMd rfl) ?_ | refine KK.c (nMd rfl) ?_)
set_option maxRecDepth 20000 in
theorem k_b_M_readListed_50_3 (L : Nat → Int → Int → G2 → Option (G2)) (i1 : Int) (i2 : Int) (g : G2) (hL : ∀ x0 x1 x2 g, KV cM g (L x0 x1 x2 g)) : KV cM g (b_M_readListed_50_3 L i1 i2 g) := by
  unfold b_M_readListed_50_3
  repeat' (with_reducible first | refine KV.ite ?_ ?_ | refine KV.bd ?_ (fun _ _ _ => ?_) | refine KV.bind ?_ (fun _ _ => ?_) | exact KV.no | refine KV.so ?_ | refine KV.via (hL ..) ?_ | assumption | exact KK.rf | refine KK.i (nMd rfl) ?_ | refine KK.j (nMd rfl) ?_ | refine KK.a (nMd rfl) ?_ | refine KK.b (nMd rfl) ?_ | refine KK.c (nMd rfl) ?_)
set_option maxRecDepth 20000 in
theorem k_l_M_readListed_50 : ∀ (n : Nat) (x0 : Nat) (x1 : Int) (x2 : Int) (g : G2), KV cM g (l_M_readListed_50 n x0 x1 x2 g) := by
  intro n
  induction n with
  | zero => intros; exact KV.no
  | succ n ih =>
    intro x0 x1 x2 g
    unfold l_M_readListed_50
    try dsimp only
    first | (split <;> (first  | exact k_b_M_readListed_50_0 _ _ _ _ ih | exact k_b_M_readListed_50_1 _ _ _ _ ih | exact k_b_M_readListed_50_2 _ _ _ _ ih | exact k_b_M_readListed_50_3 _ _ _ _ ih)) | (first  | exact k_b_M_readListed_50_0 _ _ _ _ ih | exact k_b_M_readListed_50_1 _ _ _ _ ih | exact k_b_M_readListed_50_2 _ _ _ _ ih | exact k_b_M_readListed_50_3 _ _ _ _ ih)
set_option maxRecDepth 20000 in
theorem k_f_M_readListed_50 (a1 : Int) (g : G2) : KV cM g (f_M_readListed_50 a1 g) := by
  unfold f_M_readListed_50
  repeat' (with_reducible first | refine KV.ite ?_ ?_ | refine KV.bd ?_ (fun _ _ _ => ?_) | refine KV.bind ?_ (fun _ _ => ?_) | exact KV.no | refine KV.so ?_ | refine KO.via (k_l_M_readListed_50 ..) ?_ | refine KV.via (k_l_M_readListed_50 ..) ?_ | assumption | exact KK.rf | refine KK.i (nMd rfl) ?_ | refine KK.j (nMd rfl) ?_ | refine KK.a (nMd rfl) ?_ | refine KK.b (nMd rfl) ?_ | refine KK.c (nMd rfl) ?_)
set_option maxRecDepth 20000 in
theorem k_b_M_isLetters_50_0 (L : Nat → Int → G2 → Option (Int × G2)) (i1 : Int) (g : G2) (hL : ∀ x0 x1 g, KO cM g (L x0 x1 g)) : KO cM g (b_M_isLetters_50_0 L i1 g) := by
  unfold b_M_isLetters_50_0
  repeat' (with_reducible first | refine KO.ite ?_ ?_ | refine KO.bd ?_ (fun _ _ _ => ?_) | refine KO.bind ?_ (fun _ _ => ?_) | exact KO.no | refine KO.so ?_ | refine KO.via (k_f_M_letter_50 ..) ?_ | refine KV.via (k_f_M_letter_50 ..) ?_ | refine KO.via (hL ..) ?_ | assumption | exact KK.rf | refine KK.i (nMd rfl) ?_ | refine KK.j (nMd rfl) ?_ | refine KK.a (nMd rfl) ?_ | refine KK.b (nMd rfl) ?_ | refine KK.c (nMd rfl) ?_)
set_option maxRecDepth 20000 in
theorem k_l_M_isLetters_50 : ∀ (n : Nat) (x0 : Nat) (x1 : Int) (g : G2), KO cM g (l_M_isLetters_50 n x0 x1 g) := by
  intro n
  induction n with
  | zero => intros; exact KO.no
  | succ n ih =>
    intro x0 x1 g
    unfold l_M_isLetters_50
    try dsimp only
    first | (split <;> (first  | exact k_b_M_isLetters_50_0 _ _ _ ih)) | (first  | exact k_b_M_isLetters_50_0 _ _ _ ih)
set_option maxRecDepth 20000 in
theorem k_f_M_isLetters_50 (g : G2) : KO cM g (f_M_isLetters_50 g) := by
  unfold f_M_isLetters_50
  repeat' (with_reducible first | refine KO.ite ?_ ?_ | refine KO.bd ?_ (fun _ _ _ => ?_) | refine KO.bind ?_ (fun _ _ => ?_) | exact KO.no | refine KO.so ?_ | refine KO.via (k_l_M_isLetters_50 ..) ?_ | refine KV.via (k_l_M_isLetters_50 ..) ?_ | assumption | exact KK.rf | refine KK.i (nMd rfl) ?_ | refine KK.j (nMd rfl) ?_ | refine KK.a (nMd rfl) ?_ | refine KK.b (nMd rfl) ?_ | refine KK.c (nMd rfl) ?_)
set_option maxRecDepth 20000 in
theorem k_b_M_tag_50_0 (L : Nat → Int → G2 → Option (G2)) (i1 : Int) (g : G2) (hL : ∀ x0 x1 g, KV cM g (L x0 x1 g)) : KV cM g (b_M_tag_50_0 L i1 g) := by
  unfold b_M_tag_50_0
  repeat' (with_reducible first | refine KV.ite ?_ ?_ | refine KV.bd ?_ (fun _ _ _ => ?_) | refine KV.bind ?_ (fun _ _ => ?_) | exact KV.no | refine KV.so ?_ | refine KV.via (hL ..) ?_ | assumption | exact KK.rf | refine KK.i (nMd rfl) ?_ | refine KK.j (nMd rfl) ?_ | refine KK.a (nMd rfl) ?_ | refine KK.b (nMd rfl) ?_ | refine KK.c (nMd rfl) ?_)
set_option maxRecDepth 20000 in
theorem k_l_M_tag_50 : ∀ (n : Nat) (x0 : Nat) (x1 : Int) (g : G2), KV cM g (l_M_tag_50 n x0 x1 g) := by
  intro n
  induction n with
  | zero => intros; exact KV.no
  | succ n ih =>
    intro x0 x1 g
    unfold l_M_tag_50
    try dsimp only
    first | (split <;> (first  | exact k_b_M_tag_50_0 _ _ _ ih)) | (first  | exact k_b_M_tag_50_0 _ _ _ ih)
set_option maxRecDepth 20000 in
theorem k_f_M_tag_50 (g : G2) : KV cM g (f_M_tag_50 g) := by
  unfold f_M_tag_50
  repeat' (with_reducible first | refine KV.ite ?_ ?_ | refine KV.bd ?_ (fun _ _ _ => ?_) | refine KV.bind ?_ (fun _ _ => ?_) | exact KV.no | refine KV.so ?_ | refine KO.via (k_l_M_tag_50 ..) ?_ | refine KV.via (k_l_M_tag_50 ..) ?_ | assumption | exact KK.rf | refine KK.i (nMd rfl) ?_ | refine KK.j (nMd rfl) ?_ | refine KK.a (nMd rfl) ?_ | refine KK.b (nMd rfl) ?_ | refine KK.c (nMd rfl) ?_)
set_option maxRecDepth 20000 in
theorem k_b_M_pushTagged_50_0 (L : Nat → Int → Int → G2 → Option (G2)) (i1 : Int) (i2 : Int) (g : G2) (hL : ∀ x0 x1 x2 g, KV cM g (L x0 x1 x2 g)) : KV cM g (b_M_pushTagged_50_0 L i1 i2 g) := by
  unfold b_M_pushTagged_50_0
  repeat' (with_reducible first | refine KV.ite ?_ ?_ | refine KV.bd ?_ (fun _ _ _ => ?_) | refine KV.bind ?_ (fun _ _ => ?_) | exact KV.no | refine KV.so ?_ | refine KV.via (hL ..) ?_ | assumption | exact KK.rf | refine KK.i (nMd rfl) ?_ | refine KK.j (nMd rfl) ?_ | refine KK.a (nMd rfl) ?_ | refine KK.b (nMd rfl) ?_ | refine KK.c (nMd rfl) ?_)
set_option maxRecDepth 20000 in
theorem k_l_M_pushTagged_50 : ∀ (n : Nat) (x0 : Nat) (x1 : Int) (x2 : Int) (g : G2), KV cM g (l_M_pushTagged_50 n x0 x1 x2 g) := by
  intro n
  induction n with
  | zero => intros; exact KV.no
  | succ n ih =>
    intro x0 x1 x2 g
    unfold l_M_pushTagged_50
    try dsimp only
    first | (split <;> (first  | exact k_b_M_pushTagged_50_0 _ _ _ _ ih)) | (first  | exact k_b_M_pushTagged_50_0 _ _ _ _ ih)
set_option maxRecDepth 20000 in
theorem k_f_M_pushTagged_50 (a1 : Int) (g : G2) : KV cM g (f_M_pushTagged_50 a1 g) := by
  unfold f_M_pushTagged_50
  repeat' (with_reducible first | refine KV.ite ?_ ?_ | refine KV.bd ?_ (fun _ _ _ => ?_) | refine KV.bind ?_ (fun _ _ => ?_) | exact KV.no | refine KV.so ?_ | refine KO.via (k_f_M_hasRoom_50 ..) ?_ | refine KV.via (k_f_M_hasRoom_50 ..) ?_ | refine KO.via (k_l_M_pushTagged_50 ..) ?_ | refine KV.via (k_l_M_pushTagged_50 ..) ?_ | assumption | exact KK.rf | refine KK.i (nMd rfl) ?_ | refine KK.j (nMd rfl) ?_ | refine KK.a (nMd rfl) ?_ | refine KK.b (nMd rfl) ?_ | refine KK.c (nMd rfl) ?_)
set_option maxRecDepth 20000 in
theorem k_f_M_stepWith_50 (a1 : Int) (a2 : Int) (g : G2) : KV cM g (f_M_stepWith_50 a1 a2 g) := by
  unfold f_M_stepWith_50
  repeat' (with_reducible first | refine KV.ite ?_ ?_ | refine KV.bd ?_ (fun _ _ _ => ?_) | refine KV.bind ?_ (fun _ _ => ?_) | exact KV.no | refine KV.so ?_ | refine KO.via (k_f_M_fail_50 ..) ?_ | refine KV.via (k_f_M_fail_50 ..) ?_ | refine KO.via (k_f_M_pushTagged_50 ..) ?_ | refine KV.via (k_f_M_pushTagged_50 ..) ?_ | refine KO.via (k_f_M_step_50 ..) ?_ | refine KV.via (k_f_M_step_50 ..) ?_ | refine KO.via (k_f_M_tally_50 ..) ?_ | refine KV.via (k_f_M_tally_50 ..) ?_ | assumption | exact KK.rf | refine KK.i (nMd rfl) ?_ | refine KK.j (nMd rfl) ?_ | refine KK.a (nMd rfl) ?_ | refine KK.b (nMd rfl) ?_ | refine KK.c (nMd rfl) ?_)
set_option maxRecDepth 20000 in
theorem k_b_M_readLetter_50_0 (L : Nat → G2 → Option (G2)) (g : G2) (hL : ∀ x0 g, KV cM g (L x0 g)) : KV cM g (b_M_readLetter_50_0 L g) := by
  unfold b_M_readLetter_50_0
  repeat' (with_reducible first | refine KV.ite ?_ ?_ | refine KV.bd ?_ (fun _ _ _ => ?_) | refine KV.bind ?_ (fun _ _ => ?_) | exact KV.no | refine KV.so ?_ | refine KV.via (hL ..) ?_ | assumption | exact KK.rf | refine KK.i (nMd rfl) ?_ | refine KK.j (nMd rfl) ?_ | refine KK.a (nMd rfl) ?_ | refine KK.b (nMd rfl) ?_ | refine KK.c (nMd rfl) ?_)
set_option maxRecDepth 20000 in
theorem k_b_M_readLetter_50_1 (L : Nat → G2 → Option (G2)) (g : G2) (hL : ∀ x0 g, KV cM g (L x0 g)) : KV cM g (b_M_readLetter_50_1 L g) := by
  unfold b_M_readLetter_50_1
  repeat' (with_reducible first | refine KV.ite ?_ ?_ | refine KV.bd ?_ (fun _ _ _ => ?_) | refine KV.bind ?_ (fun _ _ => ?_) | exact KV.no | refine KV.so ?_ | refine KV.via (hL ..) ?_ | assumption | exact KK.rf | refine KK.i (nMd rfl) ?_ | refine KK.j (nMd rfl) ?_ | refine KK.a (nMd rfl) ?_ | refine KK.b (nMd rfl) ?_ | refine KK.c (nMd rfl) ?_)
set_option maxRecDepth 20000 in
theorem k_b_M_readLetter_50_2 (L : Nat → G2 → Option (G2)) (g : G2) (hL : ∀ x0 g, KV cM g (L x0 g)) : KV cM g (b_M_readLetter_50_2 L g) := by
  unfold b_M_readLetter_50_2
  repeat' (with_reducible first | refine KV.ite ?_ ?_ | refine KV.bd ?_ (fun _ _ _ => ?_) | refine KV.bind ?_ (fun _ _ => ?_) | exact KV.no | refine KV.so ?_ | refine KV.via (hL ..) ?_ | assumption | exact KK.rf | refine KK.i (nMd rfl) ?_ | refine KK.j (nMd rfl) ?_ | refine KK.a (nMd rfl) ?_ | refine KK.b (nMd rfl) ?_ | refine KK.c (nMd rfl) ?_)
set_option maxRecDepth 20000 in
theorem k_l_M_readLetter_50 : ∀ (n : Nat) (x0 : Nat) (g : G2), KV cM g (l_M_readLetter_50 n x0 g) := by
  intro n
  induction n with
  | zero => intros; exact KV.no
  | succ n ih =>
    intro x0 g
    unfold l_M_readLetter_50
    try dsimp only
    first | (split <;> (first  | exact k_b_M_readLetter_50_0 _ _ ih | exact k_b_M_readLetter_50_1 _ _ ih | exact k_b_M_readLetter_50_2 _ _ ih)) | (first  | exact k_b_M_readLetter_50_0 _ _ ih | exact k_b_M_readLetter_50_1 _ _ ih | exact k_b_M_readLetter_50_2 _ _ ih)
set_option maxRecDepth 20000 in
theorem k_f_M_readLetter_50 (a1 : Int) (a2 : Int) (g : G2) : KV cM g (f_M_readLetter_50 a1 a2 g) := by
  unfold f_M_readLetter_50
  repeat' (with_reducible first | refine KV.ite ?_ ?_ | refine KV.bd ?_ (fun _ _ _ => ?_) | refine KV.bind ?_ (fun _ _ => ?_) | exact KV.no | refine KV.so ?_ | refine KO.via (k_f_M_fail_50 ..) ?_ | refine KV.via (k_f_M_fail_50 ..) ?_ | refine KO.via (k_f_M_stepWith_50 ..) ?_ | refine KV.via (k_f_M_stepWith_50 ..) ?_ | refine KO.via (k_f_M_tag_50 ..) ?_ | refine KV.via (k_f_M_tag_50 ..) ?_ | refine KO.via (k_l_M_readLetter_50 ..) ?_ | refine KV.via (k_l_M_readLetter_50 ..) ?_ | assumption | exact KK.rf | refine KK.i (nMd rfl) ?_ | refine KK.j (nMd rfl) ?_ | refine KK.a (nMd rfl) ?_ | refine KK.b (nMd rfl) ?_ | refine KK.c (nMd rfl) ?_)
set_option maxRecDepth 20000 in
theorem k_b_M_readLetters_50_0 (L : Nat → Int → Int → G2 → Option (G2)) (i1 : Int) (i3 : Int) (g : G2) (hL : ∀ x0 x1 x2 g, KV cM g (L x0 x1 x2 g)) : KV cM g (b_M_readLetters_50_0 L i1 i3 g) := by
  unfold b_M_readLetters_50_0
  repeat' (with_reducible first | refine KV.ite ?_ ?_ | refine KV.bd ?_ (fun _ _ _ => ?_) | refine KV.bind ?_ (fun _ _ => ?_) | exact KV.no | refine KV.so ?_ | refine KO.via (k_f_M_fail_50 ..) ?_ | refine KV.via (k_f_M_fail_50 ..) ?_ | refine KO.via (k_f_M_isLetters_50 ..) ?_ | refine KV.via (k_f_M_isLetters_50 ..) ?_ | refine KO.via (k_f_M_need_50 ..) ?_ | refine KV.via (k_f_M_need_50 ..) ?_ | refine KV.via (hL ..) ?_ | assumption | exact KK.rf | refine KK.i (nMd rfl) ?_ | refine KK.j (nMd rfl) ?_ | refine KK.a (nMd rfl) ?_ | refine KK.b (nMd rfl) ?_ | refine KK.c (nMd rfl) ?_)
set_option maxRecDepth 20000 in
theorem k_b_M_readLetters_50_1 (L : Nat → Int → Int → G2 → Option (G2)) (i1 : Int) (i3 : Int) (g : G2) (hL : ∀ x0 x1 x2 g, KV cM g (L x0 x1 x2 g)) : KV cM g (b_M_readLetters_50_1 L i1 i3 g) := by
  unfold b_M_readLetters_50_1
  repeat' (with_reducible first | refine KV.ite ?_ ?_ | refine KV.bd ?_ (fun _ _ _ => ?_) | refine KV.bind ?_ (fun _ _ => ?_) | exact KV.no | refine KV.so ?_ | refine KV.via (hL ..) ?_ | assumption | exact KK.rf | refine KK.i (nMd rfl) ?_ | refine KK.j (nMd rfl) ?_ | refine KK.a (nMd rfl) ?_ | refine KK.b (nMd rfl) ?_ | refine KK.c (nMd rfl) ?_)
set_option maxRecDepth 20000 in
theorem k_b_M_readLetters_50_2 (L : Nat → Int → Int → G2 → Option (G2)) (i1 : Int) (i3 : Int) (g : G2) (hL : ∀ x0 x1 x2 g, KV cM g (L x0 x1 x2 g)) : KV cM g (b_M_readLetters_50_2 L i1 i3 g) := by
  unfold b_M_readLetters_50_2
  repeat' (with_reducible first | refine KV.ite ?_ ?_ | refine KV.bd ?_ (fun _ _ _ => ?_) | refine KV.bind ?_ (fun _ _ => ?_) | exact KV.no | refine KV.so ?_ | refine KO.via (k_f_M_fail_50 ..) ?_ | refine KV.via (k_f_M_fail_50 ..) ?_ | refine KV.via (hL ..) ?_ | assumption | exact KK.rf | refine KK.i (nMd rfl) ?_ | refine KK.j (nMd rfl) ?_ | refine KK.a (nMd rfl) ?_ | refine KK.b (nMd rfl) ?_ | refine KK.c (nMd rfl) ?_)
set_option maxRecDepth 20000 in
theorem k_b_M_readLetters_50_3 (L : Nat → Int → Int → G2 → Option (G2)) (i1 : Int) (i3 : Int) (g : G2) (hL : ∀ x0 x1 x2 g, KV cM g (L x0 x1 x2 g)) : KV cM g (b_M_readLetters_50_3 L i1 i3 g) := by
  unfold b_M_readLetters_50_3
  repeat' (with_reducible first | refine KV.ite ?_ ?_ | refine KV.bd ?_ (fun _ _ _ => ?_) | refine KV.bind ?_ (fun _ _ => ?_) | exact KV.no | refine KV.so ?_ | refine KV.via (hL ..) ?_ | assumption | exact KK.rf | refine KK.i (nMd rfl) ?_ | refine KK.j (nMd rfl) ?_ | refine KK.a (nMd rfl) ?_ | refine KK.b (nMd rfl) ?_ | refine KK.c (nMd rfl) ?_)
set_option maxRecDepth 20000 in
theorem k_b_M_readLetters_50_4 (L : Nat → Int → Int → G2 → Option (G2)) (i1 : Int) (i3 : Int) (g : G2) (hL : ∀ x0 x1 x2 g, KV cM g (L x0 x1 x2 g)) : KV cM g (b_M_readLetters_50_4 L i1 i3 g) := by
  unfold b_M_readLetters_50_4
  repeat' (with_reducible first | refine KV.ite ?_ ?_ | refine KV.bd ?_ (fun _ _ _ => ?_) | refine KV.bind ?_ (fun _ _ => ?_) | exact KV.no | refine KV.so ?_ | refine KO.via (k_f_M_letter_50 ..) ?_ | refine KV.via (k_f_M_letter_50 ..) ?_ | refine KO.via (k_f_M_readLetter_50 ..) ?_ | refine KV.via (k_f_M_readLetter_50 ..) ?_ | refine KV.via (hL ..) ?_ | assumption | exact KK.rf | refine KK.i (nMd rfl) ?_ | refine KK.j (nMd rfl) ?_ | refine KK.a (nMd rfl) ?_ | refine KK.b (nMd rfl) ?_ | refine KK.c (nMd rfl) ?_)
set_option maxRecDepth 20000 in
theorem k_b_M_readLetters_50_5 (L : Nat → Int → Int → G2 → Option (G2)) (i1 : Int) (i3 : Int) (g : G2) (hL : ∀ x0 x1 x2 g, KV cM g (L x0 x1 x2 g)) : KV cM g (b_M_readLetters_50_5 L i1 i3 g) := by
  unfold b_M_readLetters_50_5
  repeat' (with_reducible first | refine KV.ite ?_ ?_ | refine KV.bd ?_ (fun _ _ _ => ?_) | refine KV.bind ?_ (fun _ _ => ?_) | exact KV.no | refine KV.so ?_ | refine KV.via (hL ..) ?_ | assumption | exact KK.rf | refine KK.i (nMd rfl) ?_ | refine KK.j (nMd rfl) ?_ | refine KK.a (nMd rfl) ?_ | refine KK.b (nMd rfl) ?_ | refine KK.c (nMd rfl) ?_)
set_option maxRecDepth 20000 in
theorem k_l_M_readLetters_50 : ∀ (n : Nat) (x0 : Nat) (x1 : Int) (x2 : Int) (g : G2), KV cM g (l_M_readLetters_50 n x0 x1 x2 g) := by
  intro n
  induction n with
  | zero => intros; exact KV.no
  | succ n ih =>
    intro x0 x1 x2 g
    unfold l_M_readLetters_50
    try dsimp only
    first | (split <;> (first  | exact k_b_M_readLetters_50_0 _ _ _ _ ih | exact k_b_M_readLetters_50_1 _ _ _ _ ih | exact k_b_M_readLetters_50_2 _ _ _ _ ih | exact k_b_M_readLetters_50_3 _ _ _ _ ih | exact k_b_M_readLetters_50_4 _ _ _ _ ih | exact k_b_M_readLetters_50_5 _ _ _ _ ih)) | (first  | exact k_b_M_readLetters_50_0 _ _ _ _ ih | exact k_b_M_readLetters_50_1 _ _ _ _ ih | exact k_b_M_readLetters_50_2 _ _ _ _ ih | exact k_b_M_readLetters_50_3 _ _ _ _ ih | exact k_b_M_readLetters_50_4 _ _ _ _ ih | exact k_b_M_readLetters_50_5 _ _ _ _ ih)
set_option maxRecDepth 20000 in
theorem k_f_M_readLetters_50 (a1 : Int) (g : G2) : KV cM g (f_M_readLetters_50 a1 g) := by
  unfold f_M_readLetters_50
  repeat' (with_reducible first | refine KV.ite ?_ ?_ | refine KV.bd ?_ (fun _ _ _ => ?_) | refine KV.bind ?_ (fun _ _ => ?_) | exact KV.no | refine KV.so ?_ | refine KO.via (k_l_M_readLetters_50 ..) ?_ | refine KV.via (k_l_M_readLetters_50 ..) ?_ | assumption | exact KK.rf | refine KK.i (nMd rfl) ?_ | refine KK.j (nMd rfl) ?_ | refine KK.a (nMd rfl) ?_ | refine KK.b (nMd rfl) ?_ | refine KK.c (nMd rfl) ?_)
set_option maxRecDepth 20000 in
theorem k_f_M_readProof_50 (a1 : Int) (g : G2) : KV cM g (f_M_readProof_50 a1 g) := by
  unfold f_M_readProof_50
  repeat' (with_reducible first | refine KV.ite ?_ ?_ | refine KV.bd ?_ (fun _ _ _ => ?_) | refine KV.bind ?_ (fun _ _ => ?_) | exact KV.no | refine KV.so ?_ | refine KO.via (k_f_M_finish_50 ..) ?_ | refine KV.via (k_f_M_finish_50 ..) ?_ | refine KO.via (k_f_M_isWord_50 ..) ?_ | refine KV.via (k_f_M_isWord_50 ..) ?_ | refine KO.via (k_f_M_need_50 ..) ?_ | refine KV.via (k_f_M_need_50 ..) ?_ | refine KO.via (k_f_M_readLetters_50 ..) ?_ | refine KV.via (k_f_M_readLetters_50 ..) ?_ | refine KO.via (k_f_M_readListed_50 ..) ?_ | refine KV.via (k_f_M_readListed_50 ..) ?_ | refine KO.via (k_f_M_readSteps_50 ..) ?_ | refine KV.via (k_f_M_readSteps_50 ..) ?_ | assumption | exact KK.rf | refine KK.i (nMd rfl) ?_ | refine KK.j (nMd rfl) ?_ | refine KK.a (nMd rfl) ?_ | refine KK.b (nMd rfl) ?_ | refine KK.c (nMd rfl) ?_)
set_option maxRecDepth 20000 in
theorem k_b_M_readLabelled_50_0 (L : Nat → Int64 → Int → Int → G2 → Option (G2)) (l1 : Int64) (i3 : Int) (i4 : Int) (g : G2) (hL : ∀ x0 x1 x2 x3 g, KV cM g (L x0 x1 x2 x3 g)) : KV cM g (b_M_readLabelled_50_0 L l1 i3 i4 g) := by
  unfold b_M_readLabelled_50_0
  repeat' (with_reducible first | refine KV.ite ?_ ?_ | refine KV.bd ?_ (fun _ _ _ => ?_) | refine KV.bind ?_ (fun _ _ => ?_) | exact KV.no | refine KV.so ?_ | refine KO.via (k_f_M_fail_50 ..) ?_ | refine KV.via (k_f_M_fail_50 ..) ?_ | refine KV.via (hL ..) ?_ | assumption | exact KK.rf | refine KK.i (nMd rfl) ?_ | refine KK.j (nMd rfl) ?_ | refine KK.a (nMd rfl) ?_ | refine KK.b (nMd rfl) ?_ | refine KK.c (nMd rfl) ?_)
set_option maxRecDepth 20000 in
theorem k_b_M_readLabelled_50_1 (L : Nat → Int64 → Int → Int → G2 → Option (G2)) (l1 : Int64) (i3 : Int) (i4 : Int) (g : G2) (hL : ∀ x0 x1 x2 x3 g, KV cM g (L x0 x1 x2 x3 g)) : KV cM g (b_M_readLabelled_50_1 L l1 i3 i4 g) := by
  unfold b_M_readLabelled_50_1
  repeat' (with_reducible first | refine KV.ite ?_ ?_ | refine KV.bd ?_ (fun _ _ _ => ?_) | refine KV.bind ?_ (fun _ _ => ?_) | exact KV.no | refine KV.so ?_ | refine KO.via (k_f_M_begin_50 ..) ?_ | refine KV.via (k_f_M_begin_50 ..) ?_ | refine KO.via (k_f_M_findNeeds_50 ..) ?_ | refine KV.via (k_f_M_findNeeds_50 ..) ?_ | refine KO.via (k_f_M_readExpression_50 ..) ?_ | refine KV.via (k_f_M_readExpression_50 ..) ?_ | refine KO.via (k_f_M_readProof_50 ..) ?_ | refine KV.via (k_f_M_readProof_50 ..) ?_ | refine KV.via (hL ..) ?_ | assumption | exact KK.rf | refine KK.i (nMd rfl) ?_ | refine KK.j (nMd rfl) ?_ | refine KK.a (nMd rfl) ?_ | refine KK.b (nMd rfl) ?_ | refine KK.c (nMd rfl) ?_)
set_option maxRecDepth 20000 in
theorem k_b_M_readLabelled_50_2 (L : Nat → Int64 → Int → Int → G2 → Option (G2)) (l1 : Int64) (i3 : Int) (i4 : Int) (g : G2) (hL : ∀ x0 x1 x2 x3 g, KV cM g (L x0 x1 x2 x3 g)) : KV cM g (b_M_readLabelled_50_2 L l1 i3 i4 g) := by
  unfold b_M_readLabelled_50_2
  repeat' (with_reducible first | refine KV.ite ?_ ?_ | refine KV.bd ?_ (fun _ _ _ => ?_) | refine KV.bind ?_ (fun _ _ => ?_) | exact KV.no | refine KV.so ?_ | refine KO.via (k_f_M_declare_50 ..) ?_ | refine KV.via (k_f_M_declare_50 ..) ?_ | refine KO.via (k_f_M_settle_50 ..) ?_ | refine KV.via (k_f_M_settle_50 ..) ?_ | refine KV.via (hL ..) ?_ | assumption | exact KK.rf | refine KK.i (nMd rfl) ?_ | refine KK.j (nMd rfl) ?_ | refine KK.a (nMd rfl) ?_ | refine KK.b (nMd rfl) ?_ | refine KK.c (nMd rfl) ?_)
set_option maxRecDepth 20000 in
theorem k_b_M_readLabelled_50_3 (L : Nat → Int64 → Int → Int → G2 → Option (G2)) (l1 : Int64) (i3 : Int) (i4 : Int) (g : G2) (hL : ∀ x0 x1 x2 x3 g, KV cM g (L x0 x1 x2 x3 g)) : KV cM g (b_M_readLabelled_50_3 L l1 i3 i4 g) := by
  unfold b_M_readLabelled_50_3
  repeat' (with_reducible first | refine KV.ite ?_ ?_ | refine KV.bd ?_ (fun _ _ _ => ?_) | refine KV.bind ?_ (fun _ _ => ?_) | exact KV.no | refine KV.so ?_ | refine KV.via (hL ..) ?_ | assumption | exact KK.rf | refine KK.i (nMd rfl) ?_ | refine KK.j (nMd rfl) ?_ | refine KK.a (nMd rfl) ?_ | refine KK.b (nMd rfl) ?_ | refine KK.c (nMd rfl) ?_)
set_option maxRecDepth 20000 in
theorem k_b_M_readLabelled_50_4 (L : Nat → Int64 → Int → Int → G2 → Option (G2)) (l1 : Int64) (i3 : Int) (i4 : Int) (g : G2) (hL : ∀ x0 x1 x2 x3 g, KV cM g (L x0 x1 x2 x3 g)) : KV cM g (b_M_readLabelled_50_4 L l1 i3 i4 g) := by
  unfold b_M_readLabelled_50_4
  repeat' (with_reducible first | refine KV.ite ?_ ?_ | refine KV.bd ?_ (fun _ _ _ => ?_) | refine KV.bind ?_ (fun _ _ => ?_) | exact KV.no | refine KV.so ?_ | refine KV.via (hL ..) ?_ | assumption | exact KK.rf | refine KK.i (nMd rfl) ?_ | refine KK.j (nMd rfl) ?_ | refine KK.a (nMd rfl) ?_ | refine KK.b (nMd rfl) ?_ | refine KK.c (nMd rfl) ?_)
set_option maxRecDepth 20000 in
theorem k_l_M_readLabelled_50 : ∀ (n : Nat) (x0 : Nat) (x1 : Int64) (x2 : Int) (x3 : Int) (g : G2), KV cM g (l_M_readLabelled_50 n x0 x1 x2 x3 g) := by
  intro n
  induction n with
  | zero => intros; exact KV.no
  | succ n ih =>
    intro x0 x1 x2 x3 g
    unfold l_M_readLabelled_50
    try dsimp only
    first | (split <;> (first  | exact k_b_M_readLabelled_50_0 _ _ _ _ _ ih | exact k_b_M_readLabelled_50_1 _ _ _ _ _ ih | exact k_b_M_readLabelled_50_2 _ _ _ _ _ ih | exact k_b_M_readLabelled_50_3 _ _ _ _ _ ih | exact k_b_M_readLabelled_50_4 _ _ _ _ _ ih)) | (first  | exact k_b_M_readLabelled_50_0 _ _ _ _ _ ih | exact k_b_M_readLabelled_50_1 _ _ _ _ _ ih | exact k_b_M_readLabelled_50_2 _ _ _ _ _ ih | exact k_b_M_readLabelled_50_3 _ _ _ _ _ ih | exact k_b_M_readLabelled_50_4 _ _ _ _ _ ih)
set_option maxRecDepth 20000 in
theorem k_f_M_readLabelled_50 (g : G2) : KV cM g (f_M_readLabelled_50 g) := by
  unfold f_M_readLabelled_50
  repeat' (with_reducible first | refine KV.ite ?_ ?_ | refine KV.bd ?_ (fun _ _ _ => ?_) | refine KV.bind ?_ (fun _ _ => ?_) | exact KV.no | refine KV.so ?_ | refine KO.via (k_f_M_codeOf_50 ..) ?_ | refine KV.via (k_f_M_codeOf_50 ..) ?_ | refine KO.via (k_f_M_fail_50 ..) ?_ | refine KV.via (k_f_M_fail_50 ..) ?_ | refine KO.via (k_f_M_find_50 ..) ?_ | refine KV.via (k_f_M_find_50 ..) ?_ | refine KO.via (k_f_M_need_50 ..) ?_ | refine KV.via (k_f_M_need_50 ..) ?_ | refine KO.via (k_f_M_readFloating_50 ..) ?_ | refine KV.via (k_f_M_readFloating_50 ..) ?_ | refine KO.via (k_l_M_readLabelled_50 ..) ?_ | refine KV.via (k_l_M_readLabelled_50 ..) ?_ | assumption | exact KK.rf | refine KK.i (nMd rfl) ?_ | refine KK.j (nMd rfl) ?_ | refine KK.a (nMd rfl) ?_ | refine KK.b (nMd rfl) ?_ | refine KK.c (nMd rfl) ?_)
set_option maxRecDepth 20000 in
theorem k_b_M_readConstants_50_0 (L : Nat → Int → Int → G2 → Option (G2)) (i1 : Int) (i2 : Int) (g : G2) (hL : ∀ x0 x1 x2 g, KV cM g (L x0 x1 x2 g)) : KV cM g (b_M_readConstants_50_0 L i1 i2 g) := by
  unfold b_M_readConstants_50_0
  repeat' (with_reducible first | refine KV.ite ?_ ?_ | refine KV.bd ?_ (fun _ _ _ => ?_) | refine KV.bind ?_ (fun _ _ => ?_) | exact KV.no | refine KV.so ?_ | refine KO.via (k_f_M_need_50 ..) ?_ | refine KV.via (k_f_M_need_50 ..) ?_ | refine KV.via (hL ..) ?_ | assumption | exact KK.rf | refine KK.i (nMd rfl) ?_ | refine KK.j (nMd rfl) ?_ | refine KK.a (nMd rfl) ?_ | refine KK.b (nMd rfl) ?_ | refine KK.c (nMd rfl) ?_)
set_option maxRecDepth 20000 in
theorem k_b_M_readConstants_50_1 (L : Nat → Int → Int → G2 → Option (G2)) (i1 : Int) (i2 : Int) (g : G2) (hL : ∀ x0 x1 x2 g, KV cM g (L x0 x1 x2 g)) : KV cM g (b_M_readConstants_50_1 L i1 i2 g) := by
  unfold b_M_readConstants_50_1
  repeat' (with_reducible first | refine KV.ite ?_ ?_ | refine KV.bd ?_ (fun _ _ _ => ?_) | refine KV.bind ?_ (fun _ _ => ?_) | exact KV.no | refine KV.so ?_ | refine KO.via (k_f_M_addName_50 ..) ?_ | refine KV.via (k_f_M_addName_50 ..) ?_ | refine KO.via (k_f_M_codeOf_50 ..) ?_ | refine KV.via (k_f_M_codeOf_50 ..) ?_ | refine KO.via (k_f_M_fail_50 ..) ?_ | refine KV.via (k_f_M_fail_50 ..) ?_ | refine KO.via (k_f_M_findWord_50 ..) ?_ | refine KV.via (k_f_M_findWord_50 ..) ?_ | refine KV.via (hL ..) ?_ | assumption | exact KK.rf | refine KK.i (nMd rfl) ?_ | refine KK.j (nMd rfl) ?_ | refine KK.a (nMd rfl) ?_ | refine KK.b (nMd rfl) ?_ | refine KK.c (nMd rfl) ?_)
set_option maxRecDepth 20000 in
theorem k_b_M_readConstants_50_2 (L : Nat → Int → Int → G2 → Option (G2)) (i1 : Int) (i2 : Int) (g : G2) (hL : ∀ x0 x1 x2 g, KV cM g (L x0 x1 x2 g)) : KV cM g (b_M_readConstants_50_2 L i1 i2 g) := by
  unfold b_M_readConstants_50_2
  repeat' (with_reducible first | refine KV.ite ?_ ?_ | refine KV.bd ?_ (fun _ _ _ => ?_) | refine KV.bind ?_ (fun _ _ => ?_) | exact KV.no | refine KV.so ?_ | refine KV.via (hL ..) ?_ | assumption | exact KK.rf | refine KK.i (nMd rfl) ?_ | refine KK.j (nMd rfl) ?_ | refine KK.a (nMd rfl) ?_ | refine KK.b (nMd rfl) ?_ | refine KK.c (nMd rfl) ?_)
set_option maxRecDepth 20000 in
theorem k_l_M_readConstants_50 : ∀ (n : Nat) (x0 : Nat) (x1 : Int) (x2 : Int) (g : G2), KV cM g (l_M_readConstants_50 n x0 x1 x2 g) := by
  intro n
  induction n with
  | zero => intros; exact KV.no
  | succ n ih =>
    intro x0 x1 x2 g
    unfold l_M_readConstants_50
    try dsimp only
    first | (split <;> (first  | exact k_b_M_readConstants_50_0 _ _ _ _ ih | exact k_b_M_readConstants_50_1 _ _ _ _ ih | exact k_b_M_readConstants_50_2 _ _ _ _ ih)) | (first  | exact k_b_M_readConstants_50_0 _ _ _ _ ih | exact k_b_M_readConstants_50_1 _ _ _ _ ih | exact k_b_M_readConstants_50_2 _ _ _ _ ih)
set_option maxRecDepth 20000 in
theorem k_f_M_readConstants_50 (g : G2) : KV cM g (f_M_readConstants_50 g) := by
  unfold f_M_readConstants_50
  repeat' (with_reducible first | refine KV.ite ?_ ?_ | refine KV.bd ?_ (fun _ _ _ => ?_) | refine KV.bind ?_ (fun _ _ => ?_) | exact KV.no | refine KV.so ?_ | refine KO.via (k_f_M_fail_50 ..) ?_ | refine KV.via (k_f_M_fail_50 ..) ?_ | refine KO.via (k_l_M_readConstants_50 ..) ?_ | refine KV.via (k_l_M_readConstants_50 ..) ?_ | assumption | exact KK.rf | refine KK.i (nMd rfl) ?_ | refine KK.j (nMd rfl) ?_ | refine KK.a (nMd rfl) ?_ | refine KK.b (nMd rfl) ?_ | refine KK.c (nMd rfl) ?_)
set_option maxRecDepth 20000 in
theorem k_b_M_readVariables_50_0 (L : Nat → Int → Int → Int → G2 → Option (G2)) (i1 : Int) (i2 : Int) (i3 : Int) (g : G2) (hL : ∀ x0 x1 x2 x3 g, KV cM g (L x0 x1 x2 x3 g)) : KV cM g (b_M_readVariables_50_0 L i1 i2 i3 g) := by
  unfold b_M_readVariables_50_0
  repeat' (with_reducible first | refine KV.ite ?_ ?_ | refine KV.bd ?_ (fun _ _ _ => ?_) | refine KV.bind ?_ (fun _ _ => ?_) | exact KV.no | refine KV.so ?_ | refine KO.via (k_f_M_need_50 ..) ?_ | refine KV.via (k_f_M_need_50 ..) ?_ | refine KV.via (hL ..) ?_ | assumption | exact KK.rf | refine KK.i (nMd rfl) ?_ | refine KK.j (nMd rfl) ?_ | refine KK.a (nMd rfl) ?_ | refine KK.b (nMd rfl) ?_ | refine KK.c (nMd rfl) ?_)
set_option maxRecDepth 20000 in
theorem k_b_M_readVariables_50_1 (L : Nat → Int → Int → Int → G2 → Option (G2)) (i1 : Int) (i2 : Int) (i3 : Int) (g : G2) (hL : ∀ x0 x1 x2 x3 g, KV cM g (L x0 x1 x2 x3 g)) : KV cM g (b_M_readVariables_50_1 L i1 i2 i3 g) := by
  unfold b_M_readVariables_50_1
  repeat' (with_reducible first | refine KV.ite ?_ ?_ | refine KV.bd ?_ (fun _ _ _ => ?_) | refine KV.bind ?_ (fun _ _ => ?_) | exact KV.no | refine KV.so ?_ | refine KO.via (k_f_M_fail_50 ..) ?_ | refine KV.via (k_f_M_fail_50 ..) ?_ | refine KO.via (k_f_M_findWord_50 ..) ?_ | refine KV.via (k_f_M_findWord_50 ..) ?_ | refine KV.via (hL ..) ?_ | assumption | exact KK.rf | refine KK.i (nMd rfl) ?_ | refine KK.j (nMd rfl) ?_ | refine KK.a (nMd rfl) ?_ | refine KK.b (nMd rfl) ?_ | refine KK.c (nMd rfl) ?_)
set_option maxRecDepth 20000 in
theorem k_b_M_readVariables_50_2 (L : Nat → Int → Int → Int → G2 → Option (G2)) (i1 : Int) (i2 : Int) (i3 : Int) (g : G2) (hL : ∀ x0 x1 x2 x3 g, KV cM g (L x0 x1 x2 x3 g)) : KV cM g (b_M_readVariables_50_2 L i1 i2 i3 g) := by
  unfold b_M_readVariables_50_2
  repeat' (with_reducible first | refine KV.ite ?_ ?_ | refine KV.bd ?_ (fun _ _ _ => ?_) | refine KV.bind ?_ (fun _ _ => ?_) | exact KV.no | refine KV.so ?_ | refine KO.via (k_f_M_fail_50 ..) ?_ | refine KV.via (k_f_M_fail_50 ..) ?_ | refine KV.via (hL ..) ?_ | assumption | exact KK.rf | refine KK.i (nMd rfl) ?_ | refine KK.j (nMd rfl) ?_ | refine KK.a (nMd rfl) ?_ | refine KK.b (nMd rfl) ?_ | refine KK.c (nMd rfl) ?_)
set_option maxRecDepth 20000 in
theorem k_b_M_readVariables_50_3 (L : Nat → Int → Int → Int → G2 → Option (G2)) (i1 : Int) (i2 : Int) (i3 : Int) (g : G2) (hL : ∀ x0 x1 x2 x3 g, KV cM g (L x0 x1 x2 x3 g)) : KV cM g (b_M_readVariables_50_3 L i1 i2 i3 g) := by
  unfold b_M_readVariables_50_3
  repeat' (with_reducible first | refine KV.ite ?_ ?_ | refine KV.bd ?_ (fun _ _ _ => ?_) | refine KV.bind ?_ (fun _ _ => ?_) | exact KV.no | refine KV.so ?_ | refine KO.via (k_f_M_fail_50 ..) ?_ | refine KV.via (k_f_M_fail_50 ..) ?_ | refine KV.via (hL ..) ?_ | assumption | exact KK.rf | refine KK.i (nMd rfl) ?_ | refine KK.j (nMd rfl) ?_ | refine KK.a (nMd rfl) ?_ | refine KK.b (nMd rfl) ?_ | refine KK.c (nMd rfl) ?_)
set_option maxRecDepth 20000 in
theorem k_b_M_readVariables_50_4 (L : Nat → Int → Int → Int → G2 → Option (G2)) (i1 : Int) (i2 : Int) (i3 : Int) (g : G2) (hL : ∀ x0 x1 x2 x3 g, KV cM g (L x0 x1 x2 x3 g)) : KV cM g (b_M_readVariables_50_4 L i1 i2 i3 g) := by
  unfold b_M_readVariables_50_4
  repeat' (with_reducible first | refine KV.ite ?_ ?_ | refine KV.bd ?_ (fun _ _ _ => ?_) | refine KV.bind ?_ (fun _ _ => ?_) | exact KV.no | refine KV.so ?_ | refine KO.via (k_f_M_addName_50 ..) ?_ | refine KV.via (k_f_M_addName_50 ..) ?_ | refine KO.via (k_f_M_codeOf_50 ..) ?_ | refine KV.via (k_f_M_codeOf_50 ..) ?_ | refine KV.via (hL ..) ?_ | assumption | exact KK.rf | refine KK.i (nMd rfl) ?_ | refine KK.j (nMd rfl) ?_ | refine KK.a (nMd rfl) ?_ | refine KK.b (nMd rfl) ?_ | refine KK.c (nMd rfl) ?_)
set_option maxRecDepth 20000 in
theorem k_b_M_readVariables_50_5 (L : Nat → Int → Int → Int → G2 → Option (G2)) (i1 : Int) (i2 : Int) (i3 : Int) (g : G2) (hL : ∀ x0 x1 x2 x3 g, KV cM g (L x0 x1 x2 x3 g)) : KV cM g (b_M_readVariables_50_5 L i1 i2 i3 g) := by
  unfold b_M_readVariables_50_5
  repeat' (with_reducible first | refine KV.ite ?_ ?_ | refine KV.bd ?_ (fun _ _ _ => ?_) | refine KV.bind ?_ (fun _ _ => ?_) | exact KV.no | refine KV.so ?_ | refine KV.via (hL ..) ?_ | assumption | exact KK.rf | refine KK.i (nMd rfl) ?_ | refine KK.j (nMd rfl) ?_ | refine KK.a (nMd rfl) ?_ | refine KK.b (nMd rfl) ?_ | refine KK.c (nMd rfl) ?_)
set_option maxRecDepth 20000 in
theorem k_l_M_readVariables_50 : ∀ (n : Nat) (x0 : Nat) (x1 : Int) (x2 : Int) (x3 : Int) (g : G2), KV cM g (l_M_readVariables_50 n x0 x1 x2 x3 g) := by
  intro n
  induction n with
  | zero => intros; exact KV.no
  | succ n ih =>
    intro x0 x1 x2 x3 g
    unfold l_M_readVariables_50
    try dsimp only
    first | (split <;> (first  | exact k_b_M_readVariables_50_0 _ _ _ _ _ ih | exact k_b_M_readVariables_50_1 _ _ _ _ _ ih | exact k_b_M_readVariables_50_2 _ _ _ _ _ ih | exact k_b_M_readVariables_50_3 _ _ _ _ _ ih | exact k_b_M_readVariables_50_4 _ _ _ _ _ ih | exact k_b_M_readVariables_50_5 _ _ _ _ _ ih)) | (first  | exact k_b_M_readVariables_50_0 _ _ _ _ _ ih | exact k_b_M_readVariables_50_1 _ _ _ _ _ ih | exact k_b_M_readVariables_50_2 _ _ _ _ _ ih | exact k_b_M_readVariables_50_3 _ _ _ _ _ ih | exact k_b_M_readVariables_50_4 _ _ _ _ _ ih | exact k_b_M_readVariables_50_5 _ _ _ _ _ ih)
set_option maxRecDepth 20000 in
theorem k_f_M_readVariables_50 (g : G2) : KV cM g (f_M_readVariables_50 g) := by
  unfold f_M_readVariables_50
  repeat' (with_reducible first | refine KV.ite ?_ ?_ | refine KV.bd ?_ (fun _ _ _ => ?_) | refine KV.bind ?_ (fun _ _ => ?_) | exact KV.no | refine KV.so ?_ | refine KO.via (k_l_M_readVariables_50 ..) ?_ | refine KV.via (k_l_M_readVariables_50 ..) ?_ | assumption | exact KK.rf | refine KK.i (nMd rfl) ?_ | refine KK.j (nMd rfl) ?_ | refine KK.a (nMd rfl) ?_ | refine KK.b (nMd rfl) ?_ | refine KK.c (nMd rfl) ?_)
set_option maxRecDepth 20000 in
theorem k_b_M_stoodBefore_50_0 (L : Nat → Int → Int → Int → G2 → Option (Int × G2)) (i1 : Int) (i2 : Int) (i3 : Int) (g : G2) (hL : ∀ x0 x1 x2 x3 g, KO cM g (L x0 x1 x2 x3 g)) : KO cM g (b_M_stoodBefore_50_0 L i1 i2 i3 g) := by
  unfold b_M_stoodBefore_50_0
  repeat' (with_reducible first | refine KO.ite ?_ ?_ | refine KO.bd ?_ (fun _ _ _ => ?_) | refine KO.bind ?_ (fun _ _ => ?_) | exact KO.no | refine KO.so ?_ | refine KO.via (hL ..) ?_ | assumption | exact KK.rf | refine KK.i (nMd rfl) ?_ | refine KK.j (nMd rfl) ?_ | refine KK.a (nMd rfl) ?_ | refine KK.b (nMd rfl) ?_ | refine KK.c (nMd rfl) ?_)
set_option maxRecDepth 20000 in
theorem k_l_M_stoodBefore_50 : ∀ (n : Nat) (x0 : Nat) (x1 : Int) (x2 : Int) (x3 : Int) (g : G2), KO cM g (l_M_stoodBefore_50 n x0 x1 x2 x3 g) := by
  intro n
  induction n with
  | zero => intros; exact KO.no
  | succ n ih =>
    intro x0 x1 x2 x3 g
    unfold l_M_stoodBefore_50
    try dsimp only
    first | (split <;> (first  | exact k_b_M_stoodBefore_50_0 _ _ _ _ _ ih)) | (first  | exact k_b_M_stoodBefore_50_0 _ _ _ _ _ ih)
set_option maxRecDepth 20000 in
theorem k_f_M_stoodBefore_50 (a1 : Int) (a2 : Int) (g : G2) : KO cM g (f_M_stoodBefore_50 a1 a2 g) := by
  unfold f_M_stoodBefore_50
  repeat' (with_reducible first | refine KO.ite ?_ ?_ | refine KO.bd ?_ (fun _ _ _ => ?_) | refine KO.bind ?_ (fun _ _ => ?_) | exact KO.no | refine KO.so ?_ | refine KO.via (k_l_M_stoodBefore_50 ..) ?_ | refine KV.via (k_l_M_stoodBefore_50 ..) ?_ | assumption | exact KK.rf | refine KK.i (nMd rfl) ?_ | refine KK.j (nMd rfl) ?_ | refine KK.a (nMd rfl) ?_ | refine KK.b (nMd rfl) ?_ | refine KK.c (nMd rfl) ?_)
set_option maxRecDepth 20000 in
theorem k_b_M_readApart_50_0 (L : Nat → Int → Int → Int → Int → G2 → Option (G2)) (i1 : Int) (i2 : Int) (i3 : Int) (i4 : Int) (g : G2) (hL : ∀ x0 x1 x2 x3 x4 g, KV cM g (L x0 x1 x2 x3 x4 g)) : KV cM g (b_M_readApart_50_0 L i1 i2 i3 i4 g) := by
  unfold b_M_readApart_50_0
  repeat' (with_reducible first | refine KV.ite ?_ ?_ | refine KV.bd ?_ (fun _ _ _ => ?_) | refine KV.bind ?_ (fun _ _ => ?_) | exact KV.no | refine KV.so ?_ | refine KO.via (k_f_M_need_50 ..) ?_ | refine KV.via (k_f_M_need_50 ..) ?_ | refine KV.via (hL ..) ?_ | assumption | exact KK.rf | refine KK.i (nMd rfl) ?_ | refine KK.j (nMd rfl) ?_ | refine KK.a (nMd rfl) ?_ | refine KK.b (nMd rfl) ?_ | refine KK.c (nMd rfl) ?_)
set_option maxRecDepth 20000 in
theorem k_b_M_readApart_50_1 (L : Nat → Int → Int → Int → Int → G2 → Option (G2)) (i1 : Int) (i2 : Int) (i3 : Int) (i4 : Int) (g : G2) (hL : ∀ x0 x1 x2 x3 x4 g, KV cM g (L x0 x1 x2 x3 x4 g)) : KV cM g (b_M_readApart_50_1 L i1 i2 i3 i4 g) := by
  unfold b_M_readApart_50_1
  repeat' (with_reducible first | refine KV.ite ?_ ?_ | refine KV.bd ?_ (fun _ _ _ => ?_) | refine KV.bind ?_ (fun _ _ => ?_) | exact KV.no | refine KV.so ?_ | refine KO.via (k_f_M_fail_50 ..) ?_ | refine KV.via (k_f_M_fail_50 ..) ?_ | refine KO.via (k_f_M_findWord_50 ..) ?_ | refine KV.via (k_f_M_findWord_50 ..) ?_ | refine KO.via (k_f_M_isConstant_50 ..) ?_ | refine KV.via (k_f_M_isConstant_50 ..) ?_ | refine KO.via (k_f_M_isLive_50 ..) ?_ | refine KV.via (k_f_M_isLive_50 ..) ?_ | refine KV.via (hL ..) ?_ | assumption | exact KK.rf | refine KK.i (nMd rfl) ?_ | refine KK.j (nMd rfl) ?_ | refine KK.a (nMd rfl) ?_ | refine KK.b (nMd rfl) ?_ | refine KK.c (nMd rfl) ?_)
set_option maxRecDepth 20000 in
theorem k_b_M_readApart_50_2 (L : Nat → Int → Int → Int → Int → G2 → Option (G2)) (i1 : Int) (i2 : Int) (i3 : Int) (i4 : Int) (g : G2) (hL : ∀ x0 x1 x2 x3 x4 g, KV cM g (L x0 x1 x2 x3 x4 g)) : KV cM g (b_M_readApart_50_2 L i1 i2 i3 i4 g) := by
  unfold b_M_readApart_50_2
  repeat' (with_reducible first | refine KV.ite ?_ ?_ | refine KV.bd ?_ (fun _ _ _ => ?_) | refine KV.bind ?_ (fun _ _ => ?_) | exact KV.no | refine KV.so ?_ | refine KO.via (k_f_M_fail_50 ..) ?_ | refine KV.via (k_f_M_fail_50 ..) ?_ | refine KO.via (k_f_M_isConstant_50 ..) ?_ | refine KV.via (k_f_M_isConstant_50 ..) ?_ | refine KO.via (k_f_M_stoodBefore_50 ..) ?_ | refine KV.via (k_f_M_stoodBefore_50 ..) ?_ | refine KV.via (hL ..) ?_ | assumption | exact KK.rf | refine KK.i (nMd rfl) ?_ | refine KK.j (nMd rfl) ?_ | refine KK.a (nMd rfl) ?_ | refine KK.b (nMd rfl) ?_ | refine KK.c (nMd rfl) ?_)
set_option maxRecDepth 20000 in
theorem k_b_M_readApart_50_3 (L : Nat → Int → Int → Int → Int → G2 → Option (G2)) (i1 : Int) (i2 : Int) (i3 : Int) (i4 : Int) (g : G2) (hL : ∀ x0 x1 x2 x3 x4 g, KV cM g (L x0 x1 x2 x3 x4 g)) : KV cM g (b_M_readApart_50_3 L i1 i2 i3 i4 g) := by
  unfold b_M_readApart_50_3
  repeat' (with_reducible first | refine KV.ite ?_ ?_ | refine KV.bd ?_ (fun _ _ _ => ?_) | refine KV.bind ?_ (fun _ _ => ?_) | exact KV.no | refine KV.so ?_ | refine KV.via (hL ..) ?_ | assumption | exact KK.rf | refine KK.i (nMd rfl) ?_ | refine KK.j (nMd rfl) ?_ | refine KK.a (nMd rfl) ?_ | refine KK.b (nMd rfl) ?_ | refine KK.c (nMd rfl) ?_)
set_option maxRecDepth 20000 in
theorem k_b_M_readApart_50_4 (L : Nat → Int → Int → Int → Int → G2 → Option (G2)) (i1 : Int) (i2 : Int) (i3 : Int) (i4 : Int) (g : G2) (hL : ∀ x0 x1 x2 x3 x4 g, KV cM g (L x0 x1 x2 x3 x4 g)) : KV cM g (b_M_readApart_50_4 L i1 i2 i3 i4 g) := by
  unfold b_M_readApart_50_4
  repeat' (with_reducible first | refine KV.ite ?_ ?_ | refine KV.bd ?_ (fun _ _ _ => ?_) | refine KV.bind ?_ (fun _ _ => ?_) | exact KV.no | refine KV.so ?_ | refine KO.via (k_f_M_fail_50 ..) ?_ | refine KV.via (k_f_M_fail_50 ..) ?_ | refine KV.via (hL ..) ?_ | assumption | exact KK.rf | refine KK.i (nMd rfl) ?_ | refine KK.j (nMd rfl) ?_ | refine KK.a (nMd rfl) ?_ | refine KK.b (nMd rfl) ?_ | refine KK.c (nMd rfl) ?_)
set_option maxRecDepth 20000 in
theorem k_b_M_readApart_50_5 (L : Nat → Int → Int → Int → Int → G2 → Option (G2)) (i1 : Int) (i2 : Int) (i3 : Int) (i4 : Int) (g : G2) (hL : ∀ x0 x1 x2 x3 x4 g, KV cM g (L x0 x1 x2 x3 x4 g)) : KV cM g (b_M_readApart_50_5 L i1 i2 i3 i4 g) := by
  unfold b_M_readApart_50_5
  repeat' (with_reducible first | refine KV.ite ?_ ?_ | refine KV.bd ?_ (fun _ _ _ => ?_) | refine KV.bind ?_ (fun _ _ => ?_) | exact KV.no | refine KV.so ?_ | refine KV.via (hL ..) ?_ | assumption | exact KK.rf | refine KK.i (nMd rfl) ?_ | refine KK.j (nMd rfl) ?_ | refine KK.a (nMd rfl) ?_ | refine KK.b (nMd rfl) ?_ | refine KK.c (nMd rfl) ?_)
set_option maxRecDepth 20000 in
theorem k_b_M_readApart_50_6 (L : Nat → Int → Int → Int → Int → G2 → Option (G2)) (i1 : Int) (i2 : Int) (i3 : Int) (i4 : Int) (g : G2) (hL : ∀ x0 x1 x2 x3 x4 g, KV cM g (L x0 x1 x2 x3 x4 g)) : KV cM g (b_M_readApart_50_6 L i1 i2 i3 i4 g) := by
  unfold b_M_readApart_50_6
  repeat' (with_reducible first | refine KV.ite ?_ ?_ | refine KV.bd ?_ (fun _ _ _ => ?_) | refine KV.bind ?_ (fun _ _ => ?_) | exact KV.no | refine KV.so ?_ | refine KV.via (hL ..) ?_ | assumption | exact KK.rf | refine KK.i (nMd rfl) ?_ | refine KK.j (nMd rfl) ?_ | refine KK.a (nMd rfl) ?_ | refine KK.b (nMd rfl) ?_ | refine KK.c (nMd rfl) ?_)
set_option maxRecDepth 20000 in
theorem k_l_M_readApart_50 : ∀ (n : Nat) (x0 : Nat) (x1 : Int) (x2 : Int) (x3 : Int) (x4 : Int) (g : G2), KV cM g (l_M_readApart_50 n x0 x1 x2 x3 x4 g) := by
  intro n
  induction n with
  | zero => intros; exact KV.no
  | succ n ih =>
    intro x0 x1 x2 x3 x4 g
    unfold l_M_readApart_50
    try dsimp only
    first | (split <;> (first  | exact k_b_M_readApart_50_0 _ _ _ _ _ _ ih | exact k_b_M_readApart_50_1 _ _ _ _ _ _ ih | exact k_b_M_readApart_50_2 _ _ _ _ _ _ ih | exact k_b_M_readApart_50_3 _ _ _ _ _ _ ih | exact k_b_M_readApart_50_4 _ _ _ _ _ _ ih | exact k_b_M_readApart_50_5 _ _ _ _ _ _ ih | exact k_b_M_readApart_50_6 _ _ _ _ _ _ ih)) | (first  | exact k_b_M_readApart_50_0 _ _ _ _ _ _ ih | exact k_b_M_readApart_50_1 _ _ _ _ _ _ ih | exact k_b_M_readApart_50_2 _ _ _ _ _ _ ih | exact k_b_M_readApart_50_3 _ _ _ _ _ _ ih | exact k_b_M_readApart_50_4 _ _ _ _ _ _ ih | exact k_b_M_readApart_50_5 _ _ _ _ _ _ ih | exact k_b_M_readApart_50_6 _ _ _ _ _ _ ih)
set_option maxRecDepth 20000 in
theorem k_f_M_readApart_50 (g : G2) : KV cM g (f_M_readApart_50 g) := by
  unfold f_M_readApart_50
  repeat' (with_reducible first | refine KV.ite ?_ ?_ | refine KV.bd ?_ (fun _ _ _ => ?_) | refine KV.bind ?_ (fun _ _ => ?_) | exact KV.no | refine KV.so ?_ | refine KO.via (k_l_M_readApart_50 ..) ?_ | refine KV.via (k_l_M_readApart_50 ..) ?_ | assumption | exact KK.rf | refine KK.i (nMd rfl) ?_ | refine KK.j (nMd rfl) ?_ | refine KK.a (nMd rfl) ?_ | refine KK.b (nMd rfl) ?_ | refine KK.c (nMd rfl) ?_)
set_option maxRecDepth 20000 in
theorem k_b_M_closeScope_50_0 (L : Nat → Int → G2 → Option (G2)) (i1 : Int) (g : G2) (hL : ∀ x0 x1 g, KV cM g (L x0 x1 g)) : KV cM g (b_M_closeScope_50_0 L i1 g) := by
  unfold b_M_closeScope_50_0
  repeat' (with_reducible first | refine KV.ite ?_ ?_ | refine KV.bd ?_ (fun _ _ _ => ?_) | refine KV.bind ?_ (fun _ _ => ?_) | exact KV.no | refine KV.so ?_ | refine KV.via (hL ..) ?_ | assumption | exact KK.rf | refine KK.i (nMd rfl) ?_ | refine KK.j (nMd rfl) ?_ | refine KK.a (nMd rfl) ?_ | refine KK.b (nMd rfl) ?_ | refine KK.c (nMd rfl) ?_)
set_option maxRecDepth 20000 in
theorem k_b_M_closeScope_50_1 (L : Nat → Int → G2 → Option (G2)) (i1 : Int) (g : G2) (hL : ∀ x0 x1 g, KV cM g (L x0 x1 g)) : KV cM g (b_M_closeScope_50_1 L i1 g) := by
  unfold b_M_closeScope_50_1
  repeat' (with_reducible first | refine KV.ite ?_ ?_ | refine KV.bd ?_ (fun _ _ _ => ?_) | refine KV.bind ?_ (fun _ _ => ?_) | exact KV.no | refine KV.so ?_ | refine KV.via (hL ..) ?_ | assumption | exact KK.rf | refine KK.i (nMd rfl) ?_ | refine KK.j (nMd rfl) ?_ | refine KK.a (nMd rfl) ?_ | refine KK.b (nMd rfl) ?_ | refine KK.c (nMd rfl) ?_)
set_option maxRecDepth 20000 in
theorem k_b_M_closeScope_50_2 (L : Nat → Int → G2 → Option (G2)) (i1 : Int) (g : G2) (hL : ∀ x0 x1 g, KV cM g (L x0 x1 g)) : KV cM g (b_M_closeScope_50_2 L i1 g) := by
  unfold b_M_closeScope_50_2
  repeat' (with_reducible first | refine KV.ite ?_ ?_ | refine KV.bd ?_ (fun _ _ _ => ?_) | refine KV.bind ?_ (fun _ _ => ?_) | exact KV.no | refine KV.so ?_ | refine KV.via (hL ..) ?_ | assumption | exact KK.rf | refine KK.i (nMd rfl) ?_ | refine KK.j (nMd rfl) ?_ | refine KK.a (nMd rfl) ?_ | refine KK.b (nMd rfl) ?_ | refine KK.c (nMd rfl) ?_)
set_option maxRecDepth 20000 in
theorem k_b_M_closeScope_50_3 (L : Nat → Int → G2 → Option (G2)) (i1 : Int) (g : G2) (hL : ∀ x0 x1 g, KV cM g (L x0 x1 g)) : KV cM g (b_M_closeScope_50_3 L i1 g) := by
  unfold b_M_closeScope_50_3
  repeat' (with_reducible first | refine KV.ite ?_ ?_ | refine KV.bd ?_ (fun _ _ _ => ?_) | refine KV.bind ?_ (fun _ _ => ?_) | exact KV.no | refine KV.so ?_ | refine KV.via (hL ..) ?_ | assumption | exact KK.rf | refine KK.i (nMd rfl) ?_ | refine KK.j (nMd rfl) ?_ | refine KK.a (nMd rfl) ?_ | refine KK.b (nMd rfl) ?_ | refine KK.c (nMd rfl) ?_)
set_option maxRecDepth 20000 in
theorem k_l_M_closeScope_50 : ∀ (n : Nat) (x0 : Nat) (x1 : Int) (g : G2), KV cM g (l_M_closeScope_50 n x0 x1 g) := by
  intro n
  induction n with
  | zero => intros; exact KV.no
  | succ n ih =>
    intro x0 x1 g
    unfold l_M_closeScope_50
    try dsimp only
    first | (split <;> (first  | exact k_b_M_closeScope_50_0 _ _ _ ih | exact k_b_M_closeScope_50_1 _ _ _ ih | exact k_b_M_closeScope_50_2 _ _ _ ih | exact k_b_M_closeScope_50_3 _ _ _ ih)) | (first  | exact k_b_M_closeScope_50_0 _ _ _ ih | exact k_b_M_closeScope_50_1 _ _ _ ih | exact k_b_M_closeScope_50_2 _ _ _ ih | exact k_b_M_closeScope_50_3 _ _ _ ih)
set_option maxRecDepth 20000 in
theorem k_f_M_closeScope_50 (g : G2) : KV cM g (f_M_closeScope_50 g) := by
  unfold f_M_closeScope_50
  repeat' (with_reducible first | refine KV.ite ?_ ?_ | refine KV.bd ?_ (fun _ _ _ => ?_) | refine KV.bind ?_ (fun _ _ => ?_) | exact KV.no | refine KV.so ?_ | refine KO.via (k_l_M_closeScope_50 ..) ?_ | refine KV.via (k_l_M_closeScope_50 ..) ?_ | assumption | exact KK.rf | refine KK.i (nMd rfl) ?_ | refine KK.j (nMd rfl) ?_ | refine KK.a (nMd rfl) ?_ | refine KK.b (nMd rfl) ?_ | refine KK.c (nMd rfl) ?_)
set_option maxRecDepth 20000 in
theorem k_b_M_readStatement_50_0 (L : Nat → G2 → Option (G2)) (g : G2) (hL : ∀ x0 g, KV cM g (L x0 g)) : KV cM g (b_M_readStatement_50_0 L g) := by
  unfold b_M_readStatement_50_0
  repeat' (with_reducible first | refine KV.ite ?_ ?_ | refine KV.bd ?_ (fun _ _ _ => ?_) | refine KV.bind ?_ (fun _ _ => ?_) | exact KV.no | refine KV.so ?_ | refine KV.via (hL ..) ?_ | assumption | exact KK.rf | refine KK.i (nMd rfl) ?_ | refine KK.j (nMd rfl) ?_ | refine KK.a (nMd rfl) ?_ | refine KK.b (nMd rfl) ?_ | refine KK.c (nMd rfl) ?_)
set_option maxRecDepth 20000 in
theorem k_b_M_readStatement_50_1 (L : Nat → G2 → Option (G2)) (g : G2) (hL : ∀ x0 g, KV cM g (L x0 g)) : KV cM g (b_M_readStatement_50_1 L g) := by
  unfold b_M_readStatement_50_1
  repeat' (with_reducible first | refine KV.ite ?_ ?_ | refine KV.bd ?_ (fun _ _ _ => ?_) | refine KV.bind ?_ (fun _ _ => ?_) | exact KV.no | refine KV.so ?_ | refine KV.via (hL ..) ?_ | assumption | exact KK.rf | refine KK.i (nMd rfl) ?_ | refine KK.j (nMd rfl) ?_ | refine KK.a (nMd rfl) ?_ | refine KK.b (nMd rfl) ?_ | refine KK.c (nMd rfl) ?_)
set_option maxRecDepth 20000 in
theorem k_l_M_readStatement_50 : ∀ (n : Nat) (x0 : Nat) (g : G2), KV cM g (l_M_readStatement_50 n x0 g) := by
  intro n
  induction n with
  | zero => intros; exact KV.no
  | succ n ih =>
    intro x0 g
    unfold l_M_readStatement_50
    try dsimp only
    first | (split <;> (first  | exact k_b_M_readStatement_50_0 _ _ ih | exact k_b_M_readStatement_50_1 _ _ ih)) | (first  | exact k_b_M_readStatement_50_0 _ _ ih | exact k_b_M_readStatement_50_1 _ _ ih)
set_option maxRecDepth 20000 in
theorem k_f_M_readStatement_50 (g : G2) : KV cM g (f_M_readStatement_50 g) := by
  unfold f_M_readStatement_50
  repeat' (with_reducible first | refine KV.ite ?_ ?_ | refine KV.bd ?_ (fun _ _ _ => ?_) | refine KV.bind ?_ (fun _ _ => ?_) | exact KV.no | refine KV.so ?_ | refine KO.via (k_f_M_closeScope_50 ..) ?_ | refine KV.via (k_f_M_closeScope_50 ..) ?_ | refine KO.via (k_f_M_fail_50 ..) ?_ | refine KV.via (k_f_M_fail_50 ..) ?_ | refine KO.via (k_f_M_readApart_50 ..) ?_ | refine KV.via (k_f_M_readApart_50 ..) ?_ | refine KO.via (k_f_M_readConstants_50 ..) ?_ | refine KV.via (k_f_M_readConstants_50 ..) ?_ | refine KO.via (k_f_M_readLabelled_50 ..) ?_ | refine KV.via (k_f_M_readLabelled_50 ..) ?_ | refine KO.via (k_f_M_readVariables_50 ..) ?_ | refine KV.via (k_f_M_readVariables_50 ..) ?_ | refine KO.via (k_f_M_whatIs_50 ..) ?_ | refine KV.via (k_f_M_whatIs_50 ..) ?_ | refine KO.via (k_l_M_readStatement_50 ..) ?_ | refine KV.via (k_l_M_readStatement_50 ..) ?_ | assumption | exact KK.rf | refine KK.i (nMd rfl) ?_ | refine KK.j (nMd rfl) ?_ | refine KK.a (nMd rfl) ?_ | refine KK.b (nMd rfl) ?_ | refine KK.c (nMd rfl) ?_)
set_option maxRecDepth 20000 in
theorem k_b_M_read_50_0 (L : Nat → G2 → Option (Int × G2)) (g : G2) (hL : ∀ x0 g, KO cM g (L x0 g)) : KO cM g (b_M_read_50_0 L g) := by
  unfold b_M_read_50_0
  repeat' (with_reducible first | refine KO.ite ?_ ?_ | refine KO.bd ?_ (fun _ _ _ => ?_) | refine KO.bind ?_ (fun _ _ => ?_) | exact KO.no | refine KO.so ?_ | refine KO.via (k_f_M_come_50 ..) ?_ | refine KV.via (k_f_M_come_50 ..) ?_ | refine KO.via (k_f_M_readStatement_50 ..) ?_ | refine KV.via (k_f_M_readStatement_50 ..) ?_ | refine KO.via (hL ..) ?_ | assumption | exact KK.rf | refine KK.i (nMd rfl) ?_ | refine KK.j (nMd rfl) ?_ | refine KK.a (nMd rfl) ?_ | refine KK.b (nMd rfl) ?_ | refine KK.c (nMd rfl) ?_)
set_option maxRecDepth 20000 in
theorem k_b_M_read_50_1 (L : Nat → G2 → Option (Int × G2)) (g : G2) (hL : ∀ x0 g, KO cM g (L x0 g)) : KO cM g (b_M_read_50_1 L g) := by
  unfold b_M_read_50_1
  repeat' (with_reducible first | refine KO.ite ?_ ?_ | refine KO.bd ?_ (fun _ _ _ => ?_) | refine KO.bind ?_ (fun _ _ => ?_) | exact KO.no | refine KO.so ?_ | refine KO.via (k_f_M_fail_50 ..) ?_ | refine KV.via (k_f_M_fail_50 ..) ?_ | refine KO.via (hL ..) ?_ | assumption | exact KK.rf | refine KK.i (nMd rfl) ?_ | refine KK.j (nMd rfl) ?_ | refine KK.a (nMd rfl) ?_ | refine KK.b (nMd rfl) ?_ | refine KK.c (nMd rfl) ?_)
set_option maxRecDepth 20000 in
theorem k_b_M_read_50_2 (L : Nat → G2 → Option (Int × G2)) (g : G2) (hL : ∀ x0 g, KO cM g (L x0 g)) : KO cM g (b_M_read_50_2 L g) := by
  unfold b_M_read_50_2
  repeat' (with_reducible first | refine KO.ite ?_ ?_ | refine KO.bd ?_ (fun _ _ _ => ?_) | refine KO.bind ?_ (fun _ _ => ?_) | exact KO.no | refine KO.so ?_ | refine KO.via (hL ..) ?_ | assumption | exact KK.rf | refine KK.i (nMd rfl) ?_ | refine KK.j (nMd rfl) ?_ | refine KK.a (nMd rfl) ?_ | refine KK.b (nMd rfl) ?_ | refine KK.c (nMd rfl) ?_)
set_option maxRecDepth 20000 in
theorem k_l_M_read_50 : ∀ (n : Nat) (x0 : Nat) (g : G2), KO cM g (l_M_read_50 n x0 g) := by
  intro n
  induction n with
  | zero => intros; exact KO.no
  | succ n ih =>
    intro x0 g
    unfold l_M_read_50
    try dsimp only
    first | (split <;> (first  | exact k_b_M_read_50_0 _ _ ih | exact k_b_M_read_50_1 _ _ ih | exact k_b_M_read_50_2 _ _ ih)) | (first  | exact k_b_M_read_50_0 _ _ ih | exact k_b_M_read_50_1 _ _ ih | exact k_b_M_read_50_2 _ _ ih)
set_option maxRecDepth 20000 in
theorem k_f_M_read_50 (g : G2) : KO cM g (f_M_read_50 g) := by
  unfold f_M_read_50
  repeat' (with_reducible first | refine KO.ite ?_ ?_ | refine KO.bd ?_ (fun _ _ _ => ?_) | refine KO.bind ?_ (fun _ _ => ?_) | exact KO.no | refine KO.so ?_ | refine KO.via (k_f_M_findWords_50 ..) ?_ | refine KV.via (k_f_M_findWords_50 ..) ?_ | refine KO.via (k_l_M_read_50 ..) ?_ | refine KV.via (k_l_M_read_50 ..) ?_ | assumption | exact KK.rf | refine KK.i (nMd rfl) ?_ | refine KK.j (nMd rfl) ?_ | refine KK.a (nMd rfl) ?_ | refine KK.b (nMd rfl) ?_ | refine KK.c (nMd rfl) ?_)
set_option maxRecDepth 20000 in
theorem k_f_M_place_50 (g : G2) : KO cM g (f_M_place_50 g) := by
  unfold f_M_place_50
  repeat' (with_reducible first | refine KO.ite ?_ ?_ | refine KO.bd ?_ (fun _ _ _ => ?_) | refine KO.bind ?_ (fun _ _ => ?_) | exact KO.no | refine KO.so ?_ | assumption | exact KK.rf | refine KK.i (nMd rfl) ?_ | refine KK.j (nMd rfl) ?_ | refine KK.a (nMd rfl) ?_ | refine KK.b (nMd rfl) ?_ | refine KK.c (nMd rfl) ?_)
set_option maxRecDepth 20000 in
theorem k_b_M_countNames_50_0 (L : Nat → Int → Int → Int → G2 → Option (Int × G2)) (i1 : Int) (i2 : Int) (i3 : Int) (g : G2) (hL : ∀ x0 x1 x2 x3 g, KO cM g (L x0 x1 x2 x3 g)) : KO cM g (b_M_countNames_50_0 L i1 i2 i3 g) := by
  unfold b_M_countNames_50_0
  repeat' (with_reducible first | refine KO.ite ?_ ?_ | refine KO.bd ?_ (fun _ _ _ => ?_) | refine KO.bind ?_ (fun _ _ => ?_) | exact KO.no | refine KO.so ?_ | refine KO.via (hL ..) ?_ | assumption | exact KK.rf | refine KK.i (nMd rfl) ?_ | refine KK.j (nMd rfl) ?_ | refine KK.a (nMd rfl) ?_ | refine KK.b (nMd rfl) ?_ | refine KK.c (nMd rfl) ?_)
set_option maxRecDepth 20000 in
theorem k_l_M_countNames_50 : ∀ (n : Nat) (x0 : Nat) (x1 : Int) (x2 : Int) (x3 : Int) (g : G2), KO cM g (l_M_countNames_50 n x0 x1 x2 x3 g) := by
  intro n
  induction n with
  | zero => intros; exact KO.no
  | succ n ih =>
    intro x0 x1 x2 x3 g
    unfold l_M_countNames_50
    try dsimp only
    first | (split <;> (first  | exact k_b_M_countNames_50_0 _ _ _ _ _ ih)) | (first  | exact k_b_M_countNames_50_0 _ _ _ _ _ ih)
set_option maxRecDepth 20000 in
theorem k_f_M_countNames_50 (a1 : Int) (g : G2) : KO cM g (f_M_countNames_50 a1 g) := by
  unfold f_M_countNames_50
  repeat' (with_reducible first | refine KO.ite ?_ ?_ | refine KO.bd ?_ (fun _ _ _ => ?_) | refine KO.bind ?_ (fun _ _ => ?_) | exact KO.no | refine KO.so ?_ | refine KO.via (k_l_M_countNames_50 ..) ?_ | refine KV.via (k_l_M_countNames_50 ..) ?_ | assumption | exact KK.rf | refine KK.i (nMd rfl) ?_ | refine KK.j (nMd rfl) ?_ | refine KK.a (nMd rfl) ?_ | refine KK.b (nMd rfl) ?_ | refine KK.c (nMd rfl) ?_)
set_option maxRecDepth 20000 in
theorem k_b_M_count_50_0 (L : Nat → Int → Int → Int → G2 → Option (Int × G2)) (i1 : Int) (i2 : Int) (i3 : Int) (g : G2) (hL : ∀ x0 x1 x2 x3 g, KO cM g (L x0 x1 x2 x3 g)) : KO cM g (b_M_count_50_0 L i1 i2 i3 g) := by
  unfold b_M_count_50_0
  repeat' (with_reducible first | refine KO.ite ?_ ?_ | refine KO.bd ?_ (fun _ _ _ => ?_) | refine KO.bind ?_ (fun _ _ => ?_) | exact KO.no | refine KO.so ?_ | refine KO.via (hL ..) ?_ | assumption | exact KK.rf | refine KK.i (nMd rfl) ?_ | refine KK.j (nMd rfl) ?_ | refine KK.a (nMd rfl) ?_ | refine KK.b (nMd rfl) ?_ | refine KK.c (nMd rfl) ?_)
set_option maxRecDepth 20000 in
theorem k_l_M_count_50 : ∀ (n : Nat) (x0 : Nat) (x1 : Int) (x2 : Int) (x3 : Int) (g : G2), KO cM g (l_M_count_50 n x0 x1 x2 x3 g) := by
  intro n
  induction n with
  | zero => intros; exact KO.no
  | succ n ih =>
    intro x0 x1 x2 x3 g
    unfold l_M_count_50
    try dsimp only
    first | (split <;> (first  | exact k_b_M_count_50_0 _ _ _ _ _ ih)) | (first  | exact k_b_M_count_50_0 _ _ _ _ _ ih)
set_option maxRecDepth 20000 in
theorem k_f_M_count_50 (a1 : Int) (g : G2) : KO cM g (f_M_count_50 a1 g) := by
  unfold f_M_count_50
  repeat' (with_reducible first | refine KO.ite ?_ ?_ | refine KO.bd ?_ (fun _ _ _ => ?_) | refine KO.bind ?_ (fun _ _ => ?_) | exact KO.no | refine KO.so ?_ | refine KO.via (k_f_M_countNames_50 ..) ?_ | refine KV.via (k_f_M_countNames_50 ..) ?_ | refine KO.via (k_l_M_count_50 ..) ?_ | refine KV.via (k_l_M_count_50 ..) ?_ | assumption | exact KK.rf | refine KK.i (nMd rfl) ?_ | refine KK.j (nMd rfl) ?_ | refine KK.a (nMd rfl) ?_ | refine KK.b (nMd rfl) ?_ | refine KK.c (nMd rfl) ?_)
set_option maxRecDepth 20000 in
theorem k_f_M_isAssertion_50 (a1 : Int) (g : G2) : KO cM g (f_M_isAssertion_50 a1 g) := by
  unfold f_M_isAssertion_50
  repeat' (with_reducible first | refine KO.ite ?_ ?_ | refine KO.bd ?_ (fun _ _ _ => ?_) | refine KO.bind ?_ (fun _ _ => ?_) | exact KO.no | refine KO.so ?_ | assumption | exact KK.rf | refine KK.i (nMd rfl) ?_ | refine KK.j (nMd rfl) ?_ | refine KK.a (nMd rfl) ?_ | refine KK.b (nMd rfl) ?_ | refine KK.c (nMd rfl) ?_)
set_option maxRecDepth 20000 in
theorem k_f_M_label_50 (a1 : Int) (g : G2) : KO cM g (f_M_label_50 a1 g) := by
  unfold f_M_label_50
  repeat' (with_reducible first | refine KO.ite ?_ ?_ | refine KO.bd ?_ (fun _ _ _ => ?_) | refine KO.bind ?_ (fun _ _ => ?_) | exact KO.no | refine KO.so ?_ | refine KO.via (k_f_M_isAssertion_50 ..) ?_ | refine KV.via (k_f_M_isAssertion_50 ..) ?_ | assumption | exact KK.rf | refine KK.i (nMd rfl) ?_ | refine KK.j (nMd rfl) ?_ | refine KK.a (nMd rfl) ?_ | refine KK.b (nMd rfl) ?_ | refine KK.c (nMd rfl) ?_)
set_option maxRecDepth 20000 in
theorem k_f_M_symbol_50 (a1 : Int) (a2 : Int) (g : G2) : KO cM g (f_M_symbol_50 a1 a2 g) := by
  unfold f_M_symbol_50
  repeat' (with_reducible first | refine KO.ite ?_ ?_ | refine KO.bd ?_ (fun _ _ _ => ?_) | refine KO.bind ?_ (fun _ _ => ?_) | exact KO.no | refine KO.so ?_ | refine KO.via (k_f_M_isAssertion_50 ..) ?_ | refine KV.via (k_f_M_isAssertion_50 ..) ?_ | assumption | exact KK.rf | refine KK.i (nMd rfl) ?_ | refine KK.j (nMd rfl) ?_ | refine KK.a (nMd rfl) ?_ | refine KK.b (nMd rfl) ?_ | refine KK.c (nMd rfl) ?_)
set_option maxRecDepth 20000 in
theorem k_f_M_hypothesis_50 (a1 : Int) (a2 : Int) (g : G2) : KO cM g (f_M_hypothesis_50 a1 a2 g) := by
  unfold f_M_hypothesis_50
  repeat' (with_reducible first | refine KO.ite ?_ ?_ | refine KO.bd ?_ (fun _ _ _ => ?_) | refine KO.bind ?_ (fun _ _ => ?_) | exact KO.no | refine KO.so ?_ | refine KO.via (k_f_M_isAssertion_50 ..) ?_ | refine KV.via (k_f_M_isAssertion_50 ..) ?_ | assumption | exact KK.rf | refine KK.i (nMd rfl) ?_ | refine KK.j (nMd rfl) ?_ | refine KK.a (nMd rfl) ?_ | refine KK.b (nMd rfl) ?_ | refine KK.c (nMd rfl) ?_)
set_option maxRecDepth 20000 in
theorem k_f_M_pairs_50 (a1 : Int) (g : G2) : KO cM g (f_M_pairs_50 a1 g) := by
  unfold f_M_pairs_50
  repeat' (with_reducible first | refine KO.ite ?_ ?_ | refine KO.bd ?_ (fun _ _ _ => ?_) | refine KO.bind ?_ (fun _ _ => ?_) | exact KO.no | refine KO.so ?_ | refine KO.via (k_f_M_isAssertion_50 ..) ?_ | refine KV.via (k_f_M_isAssertion_50 ..) ?_ | assumption | exact KK.rf | refine KK.i (nMd rfl) ?_ | refine KK.j (nMd rfl) ?_ | refine KK.a (nMd rfl) ?_ | refine KK.b (nMd rfl) ?_ | refine KK.c (nMd rfl) ?_)
set_option maxRecDepth 20000 in
theorem k_f_M_apart_50 (a1 : Int) (a2 : Int64) (a4 : Int64) (g : G2) : KO cM g (f_M_apart_50 a1 a2 a4 g) := by
  unfold f_M_apart_50
  repeat' (with_reducible first | refine KO.ite ?_ ?_ | refine KO.bd ?_ (fun _ _ _ => ?_) | refine KO.bind ?_ (fun _ _ => ?_) | exact KO.no | refine KO.so ?_ | refine KO.via (k_f_M_find_50 ..) ?_ | refine KV.via (k_f_M_find_50 ..) ?_ | refine KO.via (k_f_M_isAssertion_50 ..) ?_ | refine KV.via (k_f_M_isAssertion_50 ..) ?_ | refine KO.via (k_f_M_isNeeded_50 ..) ?_ | refine KV.via (k_f_M_isNeeded_50 ..) ?_ | assumption | exact KK.rf | refine KK.i (nMd rfl) ?_ | refine KK.j (nMd rfl) ?_ | refine KK.a (nMd rfl) ?_ | refine KK.b (nMd rfl) ?_ | refine KK.c (nMd rfl) ?_)
set_option maxRecDepth 20000 in
theorem k_f_M_steps_50 (a1 : Int) (g : G2) : KO cM g (f_M_steps_50 a1 g) := by
  unfold f_M_steps_50
  repeat' (with_reducible first | refine KO.ite ?_ ?_ | refine KO.bd ?_ (fun _ _ _ => ?_) | refine KO.bind ?_ (fun _ _ => ?_) | exact KO.no | refine KO.so ?_ | refine KO.via (k_f_M_isAssertion_50 ..) ?_ | refine KV.via (k_f_M_isAssertion_50 ..) ?_ | assumption | exact KK.rf | refine KK.i (nMd rfl) ?_ | refine KK.j (nMd rfl) ?_ | refine KK.a (nMd rfl) ?_ | refine KK.b (nMd rfl) ?_ | refine KK.c (nMd rfl) ?_)
set_option maxRecDepth 20000 in
theorem k_f_M_depth_50 (a1 : Int) (g : G2) : KO cM g (f_M_depth_50 a1 g) := by
  unfold f_M_depth_50
  repeat' (with_reducible first | refine KO.ite ?_ ?_ | refine KO.bd ?_ (fun _ _ _ => ?_) | refine KO.bind ?_ (fun _ _ => ?_) | exact KO.no | refine KO.so ?_ | refine KO.via (k_f_M_isAssertion_50 ..) ?_ | refine KV.via (k_f_M_isAssertion_50 ..) ?_ | assumption | exact KK.rf | refine KK.i (nMd rfl) ?_ | refine KK.j (nMd rfl) ?_ | refine KK.a (nMd rfl) ?_ | refine KK.b (nMd rfl) ?_ | refine KK.c (nMd rfl) ?_)
set_option maxRecDepth 20000 in
theorem k_f_M_uses_50 (a1 : Int) (a2 : Int) (g : G2) : KO cM g (f_M_uses_50 a1 a2 g) := by
  unfold f_M_uses_50
  repeat' (with_reducible first | refine KO.ite ?_ ?_ | refine KO.bd ?_ (fun _ _ _ => ?_) | refine KO.bind ?_ (fun _ _ => ?_) | exact KO.no | refine KO.so ?_ | refine KO.via (k_f_M_isAssertion_50 ..) ?_ | refine KV.via (k_f_M_isAssertion_50 ..) ?_ | assumption | exact KK.rf | refine KK.i (nMd rfl) ?_ | refine KK.j (nMd rfl) ?_ | refine KK.a (nMd rfl) ?_ | refine KK.b (nMd rfl) ?_ | refine KK.c (nMd rfl) ?_)
set_option maxRecDepth 20000 in
theorem k_f_M_proved_50 (a1 : Int) (g : G2) : KO cM g (f_M_proved_50 a1 g) := by
  unfold f_M_proved_50
  repeat' (with_reducible first | refine KO.ite ?_ ?_ | refine KO.bd ?_ (fun _ _ _ => ?_) | refine KO.bind ?_ (fun _ _ => ?_) | exact KO.no | refine KO.so ?_ | refine KO.via (k_f_M_isAssertion_50 ..) ?_ | refine KV.via (k_f_M_isAssertion_50 ..) ?_ | assumption | exact KK.rf | refine KK.i (nMd rfl) ?_ | refine KK.j (nMd rfl) ?_ | refine KK.a (nMd rfl) ?_ | refine KK.b (nMd rfl) ?_ | refine KK.c (nMd rfl) ?_)
