/-! ===== the model: the words of a proof ===== -/
theorem i2l_n : ∀ n : Nat, n < 127 → am_i2l (n : Int) = Int64.ofNat n := by
  decide
theorem N_ofNat {n : Nat} (h : n < 18446744073709551616) : (Int64.ofNat n).toBitVec.toNat = n := by
  show (BitVec.ofNat 64 n).toNat = n
  rw [BitVec.toNat_ofNat, Nat.mod_eq_of_lt h]
theorem cd_step (v : Int64) (n : Nat) (hn : n < 127) (hv : v.toBitVec.toNat < 562949953421312) : (v * Int64.ofNat 128 + am_i2l (n : Int)).toBitVec.toNat = v.toBitVec.toNat * 128 + n := by
  have h1 : (v * Int64.ofNat 128).toBitVec.toNat = v.toBitVec.toNat * 128 := by
    rw [Int64.toBitVec_mul, BitVec.toNat_mul, N_ofNat (by decide), Nat.mod_eq_of_lt (by omega)]
  rw [i2l_n n hn, N_add _ _ (by rw [h1, N_ofNat (by omega)]; omega), h1, N_ofNat (by omega)]
theorem cd_big : ∀ (l : List Int) (v : Int64) (k : Nat), (∀ c ∈ l, 33 ≤ c ∧ c ≤ 126) → v.toBitVec.toNat < 128 ^ k → k + l.length ≤ 8 → 1 ≤ v.toBitVec.toNat → l = [] ∨ 128 ≤ (l.foldl (fun v c => v * Int64.ofNat 128 + am_i2l c) v).toBitVec.toNat := by
  intro l
  induction l with
  | nil => intro v k _ _ _ _; exact Or.inl rfl
  | cons c l ih =>
    intro v k hc hv hk h1
    right
    rw [List.length_cons] at hk
    obtain ⟨c1, c2⟩ := hc c (by simp)
    obtain ⟨n, rfl⟩ : ∃ n : Nat, c = (n : Int) := ⟨c.toNat, by omega⟩
    have hp : 128 ^ k ≤ 128 ^ 7 := Nat.pow_le_pow_right (by decide) (by omega)
    have hp7 : 128 ^ 7 = 562949953421312 := by decide
    have hs := cd_step v n (by omega) (by omega)
    rw [List.foldl_cons]
    rcases ih (v * Int64.ofNat 128 + am_i2l (n : Int)) (k + 1) (fun x hx => hc x (by simp [hx])) (by rw [hs, Nat.pow_succ]; omega) (by omega) (by omega) with q | q
    · rw [q, List.foldl_nil, hs]; omega
    · exact q
theorem cd_one {l : List Int} (hw : WdOk l) (hl : l.length ≤ 8) {n : Nat} (hn : 33 ≤ n ∧ n < 127) : cdOf l = Int64.ofNat n ↔ l = [(n : Int)] := by
  have h0 : (Int64.ofNat 0).toBitVec.toNat = 0 := N_ofNat (by decide)
  have one : ∀ c : Nat, c < 127 → cdOf [(c : Int)] = Int64.ofNat c := by
    intro c hc
    unfold cdOf
    rw [List.foldl_cons, List.foldl_nil]
    rw [i2l_n c hc, show Int64.ofNat 0 * Int64.ofNat 128 = Int64.ofNat 0 by decide]
    exact Int64.zero_add _
  match l, hw, hl with
  | [], hw, _ => exact absurd rfl hw.1
  | [c], hw, _ =>
    obtain ⟨c1, c2⟩ := hw.2 c (by simp)
    obtain ⟨k, rfl⟩ : ∃ n : Nat, c = (n : Int) := ⟨c.toNat, by omega⟩
    rw [one k (by omega)]
    constructor
    · intro h
      have h2 : (Int64.ofNat k).toBitVec.toNat = (Int64.ofNat n).toBitVec.toNat := by rw [h]
      rw [N_ofNat (by omega), N_ofNat (by omega)] at h2
      rw [h2]
    · intro h
      injection h with h
      rw [show k = n by omega]
  | c :: d :: l, hw, hl =>
    constructor
    · intro h
      exfalso
      obtain ⟨c1, c2⟩ := hw.2 c (by simp)
      obtain ⟨k, rfl⟩ : ∃ n : Nat, c = (n : Int) := ⟨c.toNat, by omega⟩
      have hs := cd_step (Int64.ofNat 0) k (by omega) (by rw [h0]; decide)
      rw [h0] at hs
      rcases cd_big (d :: l) (Int64.ofNat 0 * Int64.ofNat 128 + am_i2l (k : Int)) 1 (fun x hx => hw.2 x (by simp at hx ⊢; exact Or.inr hx)) (by rw [hs, Nat.pow_one]; omega) (by rw [List.length_cons] at hl; omega) (by omega) with q | q
      · cases q
      · have e : cdOf ((k : Int) :: d :: l) = (d :: l).foldl (fun v c => v * Int64.ofNat 128 + am_i2l c) (Int64.ofNat 0 * Int64.ofNat 128 + am_i2l (k : Int)) := by unfold cdOf; rw [List.foldl_cons]
        rw [← e, h, N_ofNat (by omega)] at q
        omega
    · intro h; cases h
theorem m_isWord {g : G2} {ws : List (List Int)} (h : WM g ws) {j : Nat} {l : List Int} (hj : ws[j]? = some l) (h5 : rI g 49 5 = (j : Int)) (c : Int) (hc : ir c) : f_M_isWord_50 c g = some (b01 (decide (l = [c])), g) := by
  obtain ⟨h1, h2, h3⟩ := h
  obtain ⟨hok, b, b1, b2, b3, b4⟩ := h3 j l hj
  have hjl := lt_get hj
  have e52 : rA g 52 ((j : Nat) : Int) = (l.length : Int) := b2
  unfold f_M_isWord_50
  rw [h5, if_pos (by omega), e52, if_pos (by omega)]
  match l, hj, hok, b3 with
  | [], hj, hok, _ => exact absurd rfl hok.1
  | [x], hj, hok, _ =>
    obtain ⟨x1, x2⟩ := hok.2 x (by simp)
    have l0 : f_M_letter_50 (j : Int) 0 g = some (x, g) := m_letter ⟨h1, h2, h3⟩ hj (i := 0) rfl
    rw [if_pos (by rfl), bd_some l0, if_pos (by omega), if_pos hc]
    by_cases q : x = c
    · rw [if_pos q, decide_eq_true (by rw [q])]; rfl
    · rw [if_neg q, decide_eq_false (fun z => q (by injection z))]; rfl
  | x :: y :: l, hj, hok, _ =>
    rw [if_neg (by rw [List.length_cons, List.length_cons]; omega), decide_eq_false (fun z => by injection z with _ z; cases z)]; rfl
theorem m_lookUp {S : RSt} {g : G2} {ws : List (List Int)} (hR : MRep S g) (hi : Iv S) (hM : WM g ws) {j : Nat} {l : List Int} (hj : ws[j]? = some l) (h5 : rI g 49 5 = (j : Int)) :
    (usableS S (cdOf l) = none ∧ f_M_lookUp_50 g = (f_M_fail_50 (-8) (rI g 49 5) g).bind fun g' => some ((-1 : Int), g')) ∨ ∃ k, usableS S (cdOf l) = some k ∧ k < S.sms.length ∧ f_M_lookUp_50 g = some ((k : Int), g) := by
  have n60 := hi.1.1
  have m40 : S.sms.length ≤ 40 := hi.1.2.1
  have a41 := hi.1.2.2.1
  obtain ⟨⟨hN, hS, hA⟩, ⟨_, hV, hH, _⟩, _⟩ := hR
  unfold f_M_lookUp_50
  rw [bd_some (m_findWord hN n60 hM hj h5)]
  rcases fnd_cases S (cdOf l) with q | ⟨u, x, q1, q2, q3, q4⟩
  · left
    refine ⟨by unfold usableS; rw [if_pos q], ?_⟩
    rw [q, if_pos (by decide), if_pos (by decide)]
  · have e57 : rA g 57 ((u : Nat) : Int) = (if x.role = 2 then (x.lst : Int) else -1) := (hN.2 u x q3).2.2
    obtain ⟨r2, r3⟩ := hi.2.1 u x q3
    have hu : usableS S (cdOf l) = (if x.role ≠ 2 then none else if kindS S x.lst ≤ 1 ∧ tb S.hyps x.lst = false then none else some x.lst) := by
      unfold usableS
      rw [q1, if_neg (by omega), Int.toNat_natCast, q3]
    rw [q1, if_pos (by omega), if_neg (by omega), if_pos (by omega), e57]
    by_cases hr : x.role = 2
    · have hl := r3 hr
      obtain ⟨s, hs⟩ := ex_get hl
      have k3 := (hi.2.2.1 _ s hs).1
      have asn : 2 ≤ s.kind → s.asn < S.ass.length := fun z => ((hi.2.2.1 _ s hs).2.2.2.2 z).1
      have e64 : rA g 64 ((x.lst : Nat) : Int) = (if 2 ≤ s.kind then (s.asn : Int) else -1) := (hS.2 _ s hs).2.2.2.2
      have e62 : rA g 62 ((x.lst : Nat) : Int) = b01 (tb S.hyps x.lst) := (hH _ hl).1
      rw [if_neg (show ¬ (x.role ≠ 2) from fun z => z hr), kind_get hs] at hu
      rw [if_pos hr, if_pos (by omega), if_neg (by omega), if_pos (by omega), e64]
      by_cases hk : s.kind ≤ 1
      · rw [if_neg (show ¬ 2 ≤ s.kind by omega), if_pos (by decide), if_pos (by decide), e62, if_pos (b01_ir _)]
        cases hb : tb S.hyps x.lst with
        | true =>
          right
          rw [hb, if_neg (show ¬ (s.kind ≤ 1 ∧ true = false) by simp)] at hu
          rw [if_neg (show ¬ (b01 true = 0) by decide)]
          exact ⟨x.lst, hu, hl, rfl⟩
        | false =>
          left
          rw [hb, if_pos (show s.kind ≤ 1 ∧ false = false from ⟨hk, rfl⟩)] at hu
          rw [if_pos (show b01 false = 0 by decide)]
          exact ⟨hu, rfl⟩
      · have := asn (by omega)
        right
        rw [if_neg (show ¬ (s.kind ≤ 1 ∧ tb S.hyps x.lst = false) from fun z => hk z.1)] at hu
        rw [if_pos (show 2 ≤ s.kind by omega), if_pos (by omega), if_neg (by omega)]
        exact ⟨x.lst, hu, hl, rfl⟩
    · left
      rw [if_pos (show x.role ≠ 2 from hr)] at hu
      rw [if_neg hr, if_pos (by decide), if_pos (by decide)]
      exact ⟨hu, rfl⟩
