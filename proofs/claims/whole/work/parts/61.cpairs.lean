/-! ===== the class's steps: an assertion's pairs ===== -/
theorem nd_len {α : Type} [DecidableEq α] : ∀ (l l' : List α), l.Nodup → (∀ x ∈ l, x ∈ l') → l.length ≤ l'.length
  | [], _, _, _ => Nat.zero_le _
  | x :: l, l', hn, hs => by
    have h1 : x ∈ l' := hs x (by simp)
    have hn' := List.nodup_cons.mp hn
    have h2 := nd_len l (l'.erase x) hn'.2 (fun y hy => by
      have hne : y ≠ x := fun e => hn'.1 (e ▸ hy)
      exact (List.mem_erase_of_ne hne).mpr (hs y (by simp [hy])))
    rw [List.length_erase_of_mem h1] at h2
    have h3 : 0 < l'.length := List.length_pos_of_mem h1
    simp only [List.length_cons]
    omega
theorem tb_bit {k i : Nat} (hk : k < 64) (hi : i < 64) : tb (bit k) i = decide (i = k) := tb_one_shl k hk i hi
theorem ap_iff : ∀ (l : List (Nat × Nat)), (∀ p ∈ l, p.1 < 60 ∧ p.2 < 60) → ∀ x y, x < 60 → y < 64 → (tb (apOf l x) y = true ↔ (x, y) ∈ l ∨ (y, x) ∈ l) := by
  have key : ∀ (l : List (Nat × Nat)), (∀ p ∈ l, p.1 < 60 ∧ p.2 < 60) → ∀ (f : Nat → Int64) x y, x < 60 → y < 64 → (tb (l.foldl apStep f x) y = true ↔ tb (f x) y = true ∨ (x, y) ∈ l ∨ (y, x) ∈ l) := by
    intro l
    induction l with
    | nil => intro _ f x y _ _; simp
    | cons p l ih =>
      intro hl f x y hx hy
      rw [List.foldl_cons, ih (fun q hq => hl q (by simp [hq])) (apStep f p) x y hx hy]
      obtain ⟨u, v⟩ := p
      obtain ⟨hu, hv⟩ := hl (u, v) (by simp)
      have hu' : u < 60 := hu
      have hv' : v < 60 := hv
      have e : tb (apStep f (u, v) x) y = true ↔ tb (f x) y = true ∨ (x = u ∧ y = v) ∨ (x = v ∧ y = u) := by
        unfold apStep am_upd
        by_cases h1 : x = v
        · rw [if_pos h1]
          by_cases h2 : v = u
          · rw [if_pos h2, tb_or, tb_or, tb_bit (by omega) hy, tb_bit (by omega) hy]
            simp [h1, h2]
          · rw [if_neg h2, tb_or, tb_bit (by omega) hy]
            simp [h1, h2]
        · rw [if_neg h1]
          by_cases h2 : x = u
          · rw [if_pos h2, tb_or, tb_bit (by omega) hy]
            subst h2
            simp [h1]
          · rw [if_neg h2]
            simp [h1, h2]
      rw [e]
      simp only [List.mem_cons, Prod.mk.injEq]
      constructor
      · rintro ((h | h | h) | h | h)
        · exact Or.inl h
        · exact Or.inr (Or.inl (Or.inl h))
        · exact Or.inr (Or.inr (Or.inl ⟨h.2, h.1⟩))
        · exact Or.inr (Or.inl (Or.inr h))
        · exact Or.inr (Or.inr (Or.inr h))
      · rintro (h | (h | h) | (h | h))
        · exact Or.inl (Or.inl h)
        · exact Or.inl (Or.inr (Or.inl h))
        · exact Or.inr (Or.inl h)
        · exact Or.inl (Or.inr (Or.inr ⟨h.2, h.1⟩))
        · exact Or.inr (Or.inr h)
  intro l hl x y hx hy
  have := key l hl (fun _ => Int64.ofNat 0) x y hx hy
  unfold apOf
  rw [this, tb_zero]
  simp
def pF (n : Nat) (ap : Nat → Int64) (V : Int64) (x : Nat) : List (Nat × Nat) := if tb V x = true then ((List.range n).filter (fun y => decide (x < y) && tb (ap x) y && tb V y)).map (fun y => (x, y)) else []
theorem pairsOf_eq (n : Nat) (ap : Nat → Int64) (V : Int64) : pairsOf n ap V = (List.range n).flatMap (pF n ap V) := rfl
theorem mem_pairsOf {n : Nat} {ap : Nat → Int64} {V : Int64} {p : Nat × Nat} : p ∈ pairsOf n ap V ↔ p.1 < n ∧ p.2 < n ∧ p.1 < p.2 ∧ tb V p.1 = true ∧ tb V p.2 = true ∧ tb (ap p.1) p.2 = true := by
  unfold pairsOf
  rw [List.mem_flatMap]
  constructor
  · rintro ⟨x, hx, hp⟩
    rw [List.mem_range] at hx
    by_cases hv : tb V x = true
    · rw [if_pos hv, List.mem_map] at hp
      obtain ⟨y, hy, rfl⟩ := hp
      rw [List.mem_filter, List.mem_range] at hy
      simp only [Bool.and_eq_true, decide_eq_true_eq] at hy
      exact ⟨hx, hy.1, hy.2.1.1, hv, hy.2.2, hy.2.1.2⟩
    · rw [if_neg hv] at hp; cases hp
  · rintro ⟨h1, h2, h3, h4, h5, h6⟩
    refine ⟨p.1, List.mem_range.mpr h1, ?_⟩
    rw [if_pos h4, List.mem_map]
    refine ⟨p.2, ?_, rfl⟩
    rw [List.mem_filter, List.mem_range]
    simp [h2, h3, h5, h6]
theorem pairsOf_nodup (n : Nat) (ap : Nat → Int64) (V : Int64) : (pairsOf n ap V).Nodup := by
  unfold pairsOf
  unfold List.Nodup
  rw [List.pairwise_flatMap]
  refine ⟨fun x _ => ?_, ?_⟩
  · by_cases hv : tb V x = true
    · rw [if_pos hv, List.pairwise_map]
      refine List.Pairwise.imp ?_ (List.Pairwise.filter _ (List.nodup_range (n := n)))
      intro a b hab e
      exact hab (congrArg Prod.snd e)
    · rw [if_neg hv]; exact List.Pairwise.nil
  · refine List.Pairwise.imp ?_ (List.nodup_range (n := n))
    intro a b hab p hp q hq e
    have h1 : p.1 = a := by
      by_cases hv : tb V a = true
      · rw [if_pos hv, List.mem_map] at hp
        obtain ⟨y, _, rfl⟩ := hp; rfl
      · rw [if_neg hv] at hp; cases hp
    have h2 : q.1 = b := by
      by_cases hv : tb V b = true
      · rw [if_pos hv, List.mem_map] at hq
        obtain ⟨y, _, rfl⟩ := hq; rfl
      · rw [if_neg hv] at hq; cases hq
    exact hab (by rw [← h1, ← h2, e])
def nrm (p : Nat × Nat) : Nat × Nat := if p.1 < p.2 then p else (p.2, p.1)
theorem pairsOf_len {n : Nat} {l : List (Nat × Nat)} {V : Int64} (hl : ∀ p ∈ l, p.1 < 60 ∧ p.2 < 60) (hn : n ≤ 60) : (pairsOf n (apOf l) V).length ≤ l.length := by
  have := nd_len (pairsOf n (apOf l) V) (l.map nrm) (pairsOf_nodup _ _ _) (fun p hp => by
    obtain ⟨h1, h2, h3, h4, h5, h6⟩ := mem_pairsOf.mp hp
    rw [ap_iff l hl p.1 p.2 (by omega) (by omega)] at h6
    rw [List.mem_map]
    rcases h6 with h6 | h6
    · exact ⟨p, h6, by unfold nrm; rw [if_pos h3]⟩
    · exact ⟨(p.2, p.1), h6, by unfold nrm; rw [if_neg (by show ¬ p.2 < p.1; omega)]⟩)
  rw [List.length_map] at this
  exact this
/-- the pairs of the assertion in the making -/
def QX (a : Nat) (L : List (Nat × Nat)) (g : G2) : Prop := rI g 16 8 = (a : Int) ∧ g.2.2.1 18 a = (L.length : Int) ∧ ∀ (u : Nat) (p : Nat × Nat), L[u]? = some p → g.2.2.1 19 (40 * a + u) = 60 * (p.1 : Int) + p.2
def SQ (a : Nat) (g g' : G2) : Prop := KK (fun r => r ≠ 18 ∧ r ≠ 19) g g' ∧ (∀ p : Nat, p ≠ a → g'.2.2.1 18 p = g.2.2.1 18 p) ∧ ∀ p : Nat, p < 40 * a → g'.2.2.1 19 p = g.2.2.1 19 p
theorem SQ.rf {a : Nat} {g : G2} : SQ a g g := ⟨KK.rf, fun _ _ => rfl, fun _ _ => rfl⟩
theorem SQ.tr {a : Nat} {x y z : G2} (h : SQ a x y) (k : SQ a y z) : SQ a x z := ⟨h.1.tr k.1, fun p hp => (k.2.1 p hp).trans (h.2.1 p hp), fun p hp => (k.2.2 p hp).trans (h.2.2 p hp)⟩
theorem c_addPairA {a : Nat} {L : List (Nat × Nat)} {g : G2} {x y : Nat} (h : QX a L g) (ha : a < 40) (hl : L.length < 40) : ∃ g', f_Assertions_addPair_17 (((x : Int) * 60) + y) g = some g' ∧ QX a (L ++ [(x, y)]) g' ∧ SQ a g g' := by
  obtain ⟨h1, h2, h3⟩ := h
  have e : (rI g 16 8).toNat = a := by rw [h1, Int.toNat_natCast]
  have e18 : rA g 18 (rI g 16 8) = (L.length : Int) := by show g.2.2.1 18 (rI g 16 8).toNat = _; rw [e]; exact h2
  have ep : (((rI g 16 8) * 40) + (rA g 18 (rI g 16 8))).toNat = 40 * a + L.length := by rw [e18, h1]; omega
  unfold f_Assertions_addPair_17
  rw [if_pos (by omega), if_pos (by rw [e18]; omega)]
  refine ⟨_, rfl, ⟨h1, ?_, ?_⟩, KK.a (by decide) (KK.a (by decide) KK.rf), ?_, ?_⟩
  · show am_upd (g.2.2.1 18) (rI g 16 8).toNat _ a = _
    rw [e, updN_at, e18]; simp
  · intro u p hp
    show am_upd (g.2.2.1 19) (((rI g 16 8) * 40) + (rA g 18 (rI g 16 8))).toNat _ (40 * a + u) = _
    rw [ep]
    rcases ap_get hp with ⟨a1, a2⟩ | ⟨a1, a2⟩
    · rw [am_updN (by omega)]; exact h3 u p a2
    · subst a1; subst a2; rw [updN_at]; show (x : Int) * 60 + y = 60 * (x : Int) + y; omega
  · intro p hp
    show am_upd (g.2.2.1 18) (rI g 16 8).toNat _ p = _
    rw [e, am_updN hp]
  · intro p hp
    show am_upd (g.2.2.1 19) (((rI g 16 8) * 40) + (rA g 18 (rI g 16 8))).toNat _ p = _
    rw [ep, am_updN (by omega)]
def pI (ap : Nat → Int64) (V : Int64) (x j : Nat) : List (Nat × Nat) := ((List.range j).filter (fun y => decide (x < y) && tb (ap x) y && tb V y)).map (fun y => (x, y))
theorem pI_succ (ap : Nat → Int64) (V : Int64) (x j : Nat) : pI ap V x (j + 1) = pI ap V x j ++ (if x < j ∧ tb (ap x) j = true ∧ tb V j = true then [(x, j)] else []) := by
  unfold pI
  rw [List.range_succ, List.filter_append, List.map_append]
  congr 1
  by_cases h : x < j ∧ tb (ap x) j = true ∧ tb V j = true
  · rw [if_pos h]; simp [h.1, h.2.1, h.2.2]
  · rw [if_neg h]
    have : (decide (x < j) && tb (ap x) j && tb V j) = false := by
      rw [Bool.eq_false_iff]
      intro q
      simp only [Bool.and_eq_true, decide_eq_true_eq] at q
      exact h ⟨q.1.1, q.1.2, q.2⟩
    simp [this]
theorem pI_none (ap : Nat → Int64) (V : Int64) (x : Nat) : ∀ j, (∀ y, y < j → ¬ (x < y ∧ tb (ap x) y = true ∧ tb V y = true)) → pI ap V x j = [] := by
  intro j
  induction j with
  | zero => intro _; rfl
  | succ j ih =>
    intro h
    rw [pI_succ, ih (fun y hy => h y (by omega)), if_neg (h j (by omega))]; rfl
theorem pI_len (ap : Nat → Int64) (V : Int64) (x j : Nat) : ∀ d, (pI ap V x j).length ≤ (pI ap V x (j + d)).length := by
  intro d
  induction d with
  | zero => exact Nat.le_refl _
  | succ d ih => rw [show j + (d + 1) = j + d + 1 by omega, pI_succ, List.length_append]; omega
def pO (n : Nat) (ap : Nat → Int64) (V : Int64) (i : Nat) : List (Nat × Nat) := (List.range i).flatMap (pF n ap V)
theorem pO_succ (n : Nat) (ap : Nat → Int64) (V : Int64) (i : Nat) : pO n ap V (i + 1) = pO n ap V i ++ pF n ap V i := by
  unfold pO
  rw [List.range_succ, List.flatMap_append]
  simp
theorem pO_len (n : Nat) (ap : Nat → Int64) (V : Int64) (i : Nat) : ∀ d, (pO n ap V i).length ≤ (pO n ap V (i + d)).length := by
  intro d
  induction d with
  | zero => exact Nat.le_refl _
  | succ d ih => rw [show i + (d + 1) = i + d + 1 by omega, pO_succ, List.length_append]; omega
