/-! ===== the class's steps: an assertion that is used ===== -/
def hsF (x : Int64) : Nat → Nat → List Nat
  | 0, _ => []
  | d + 1, i => if tb x i = true then i :: hsF x d (i + 1) else hsF x d (i + 1)
theorem hsF_eq (x : Int64) : ∀ d i, hsOf (i + d) x = hsOf i x ++ hsF x d i := by
  intro d
  induction d with
  | zero => intro i; show hsOf i x = hsOf i x ++ []; rw [List.append_nil]
  | succ d ih =>
    intro i
    rw [show i + (d + 1) = (i + 1) + d by omega, ih (i + 1), hsOf_succ]
    show _ = hsOf i x ++ (if tb x i = true then i :: hsF x d (i + 1) else hsF x d (i + 1))
    by_cases h : tb x i = true
    · rw [if_pos h, if_pos h, List.append_assoc]; rfl
    · rw [if_neg h, if_neg h, List.append_nil]
theorem hsF_0 (x : Int64) (k : Nat) : hsF x k 0 = hsOf k x := by
  have := hsF_eq x k 0
  rw [Nat.zero_add] at this
  rw [this]; rfl
theorem hsOf_cnt (x : Int64) : ∀ k, (hsOf k x).length = cnt (tb x) k := by
  intro k
  induction k with
  | zero => rfl
  | succ k ih =>
    rw [hsOf_succ, List.length_append, ih, cnt_succ]
    by_cases h : tb x k = true
    · rw [if_pos h, if_pos h]; rfl
    · rw [if_neg h, if_neg h]; rfl
theorem repS_lt {S : RSt} {σ : Nat → Nat} (hst : StOk S S.stk) : ∀ (l : List Nat), (∀ v ∈ l, v < S.nms.length) → ∀ v ∈ (repS S σ l).1, v < S.nms.length := by
  intro l
  induction l with
  | nil => intro _ v hv; cases hv
  | cons x l ih =>
    intro hl v hv
    rw [show (repS S σ (x :: l)).1 = (subS S σ x).1 ++ (repS S σ l).1 from rfl, List.mem_append] at hv
    rcases hv with hv | hv
    · unfold subS at hv
      by_cases hr : rol S x = 1
      · rw [if_pos hr] at hv
        have hv1 : v ∈ (stR S (σ x)).tail := hv
        cases he : S.stk[σ x]? with
        | none => unfold stR at hv1; rw [he] at hv1; cases hv1
        | some e =>
          unfold stR at hv1
          rw [he] at hv1
          exact ((hst e (List.mem_of_getElem? he)).1.2.2.1 v (List.mem_of_mem_tail hv1)).1
      · rw [if_neg hr] at hv
        have hv1 : v ∈ [x] := hv
        rw [List.mem_singleton] at hv1
        subst hv1
        exact hl v (by simp)
    · exact ih (fun w hw => hl w (by simp [hw])) v hv
/-- but for what a binding writes nothing differs -/
abbrev SB4 (g g' : G2) : Prop := KK (fun r => r < 39 ∨ 42 < r) g g'
theorem SR.b4 {g g' : G2} (h : SR g g') : SB4 g g' := h.mono (fun r hr => by omega)
def RPb (S : RSt) (g : G2) (x : Int64) (σ : Nat → Nat) (i : Nat) : Prop := ∀ v, FV S (fun h => tb x h = true) v i → g.2.2.1 42 v = (σ v : Int) ∧ σ v < S.stk.length
theorem c_bindL {S : RSt} {g0 : G2} (hN : CN S g0) (hS : CS S g0) (hP : CPf S g0) (h38 : rI g0 38 4 = 0) (hi : Iv S) (hs : 10 ≤ S.stage) (k : Nat) (s : RSm) (hk : S.sms[k]? = some s) (h14 : g0.2.2.2 14 k = s.mand) (hb : Bnd S k s.mand s.row (prsS S s.asn)) : ∀ (d m i r : Nat) (σ : Nat → Nat) (g : G2), i + d = k → d < m → SB4 g0 g → r + (hsF s.mand d i).length = S.stk.length → RPb S g s.mand σ i →
    ∃ g', l_Proof_bind_34 m 0 (k : Int) (r : Int) (i : Int) g = some (b01 (bindS S (hsF s.mand d i) r σ).isSome, g') ∧ SB4 g0 g' ∧ ∀ σ', bindS S (hsF s.mand d i) r σ = some σ' → RPb S g' s.mand σ' k := by
  have m40 : S.sms.length ≤ 40 := hi.1.2.1
  have n60 := hi.1.1
  have hk40 : k < 40 := by have := lt_get hk; omega
  obtain ⟨_, _, _, _, i16, iSt, _⟩ := hi.2.2.2.2.2.2.2.1 hs
  obtain ⟨b1, b2, b3, b4⟩ := hb
  intro d
  induction d with
  | zero =>
    intro m i r σ g hid hm hkk hr hrp
    obtain ⟨m, rfl⟩ : ∃ m', m = m' + 1 := ⟨m - 1, by omega⟩
    have e : i = k := by omega
    subst e
    refine ⟨g, ?_, hkk, fun σ' h => by injection h with h; subst h; exact hrp⟩
    rw [s_Proof_bind_34_0]
    unfold b_Proof_bind_34_0
    rw [if_pos (by omega), if_pos (by omega), if_neg (by omega)]
    rfl
  | succ d ih =>
    intro m i r σ g hid hm hkk hr hrp
    obtain ⟨m, rfl⟩ : ∃ m', m = m' + 1 := ⟨m - 1, by omega⟩
    have hlk := lt_get hk
    have hmd := c_isMand (S := S) (g := g) k i s.mand hk40 (by omega) (by rw [(hkk 14 (by decide)).2.2.2]; exact h14)
    have t1 : ((i : Int) + 1) = ((i + 1 : Nat) : Int) := rfl
    have t2 : ((r : Int) + 1) = ((r + 1 : Nat) : Int) := rfl
    rw [s_Proof_bind_34_0]
    unfold b_Proof_bind_34_0
    rw [if_pos (by omega), if_pos (by omega), if_pos (by omega), bd_some hmd]
    cases hbit : tb s.mand i with
    | false =>
      have hh : hsF s.mand (d + 1) i = hsF s.mand d (i + 1) := by show (if _ then _ else _) = _; rw [hbit]; rfl
      rw [hh] at hr ⊢
      rw [if_pos (by decide), if_pos (by decide), t1]
      exact ih m (i + 1) r σ g (by omega) (by omega) hkk hr (fun v hv => by
        obtain ⟨f, f1, f2, f3⟩ := hv
        rcases Nat.lt_or_ge f i with q | q
        · exact hrp v ⟨f, f1, q, f3⟩
        · have : f = i := by omega
          subst this
          rw [hbit] at f1; cases f1)
    | true =>
      have hh : hsF s.mand (d + 1) i = i :: hsF s.mand d (i + 1) := by show (if _ then _ else _) = _; rw [hbit]; rfl
      rw [hh] at hr ⊢
      rw [List.length_cons] at hr
      obtain ⟨z, hz⟩ := ex_get (l := S.sms) (k := i) (by omega)
      obtain ⟨z1, z2, z3, z4, z5⟩ := hi.2.2.1 i z hz
      have hkz := kind_get hz
      have hrz := row_get hz
      have hk1 : z.kind ≤ 1 := by rw [← hkz]; exact (b1 i (by omega) hbit).2
      obtain ⟨w1, w2, w3, w4, w5, w6⟩ := hS.2 i z hz
      have e9 : rA g 9 ((i : Nat) : Int) = (z.kind : Int) := by show g.2.2.1 9 i = _; rw [(hkk 9 (by decide)).2.2.1]; exact w2
      obtain ⟨e, he⟩ := ex_get (l := S.stk) (k := r) (by omega)
      have hstR : stR S r = e.1 := by unfold stR; rw [he]; rfl
      obtain ⟨p1, p2, p3⟩ := hP hs
      obtain ⟨f1, f2, f3⟩ := p2 r e he
      obtain ⟨⟨u1, u2, u3, u4⟩, u5⟩ := iSt e (List.mem_of_getElem? he)
      rw [if_pos (by decide), if_neg (by decide), if_pos (by omega), e9, if_pos (by omega)]
      by_cases hk0 : z.kind = 0
      · obtain ⟨c, v, hcv, hrv⟩ := z4 hk0
        have hvn : v < S.nms.length := (z2.2.2.1 v (by rw [hcv]; simp)).1
        have hcn : c < S.nms.length := (z2.2.2.1 c (by rw [hcv]; simp)).1
        obtain ⟨h0, hh0⟩ := ex_get (l := e.1) (k := 0) (by omega)
        have hh0n := (u3 h0 (List.mem_of_getElem? hh0)).1
        have y0 : f_Expressions_symbolAt_35 (r : Int) 0 g = some ((h0 : Int), g) := by
          unfold f_Expressions_symbolAt_35
          rw [if_pos (by omega)]
          have : rA g 35 (((r : Int) * 24) + 0) = (h0 : Int) := by
            show g.2.2.1 35 (((r : Int) * 24) + 0).toNat = _
            rw [(hkk 35 (by decide)).2.2.1, show (((r : Int) * 24) + 0).toNat = 24 * r + 0 by omega]
            exact f1 0 h0 hh0
          rw [this]
        have y1 : f_Expressions_symbolAt_11 (i : Int) 0 g = some ((c : Int), g) := by
          have q := e_symbolAt_11 g i 0 (by omega) (by decide)
          rw [show g.2.2.1 11 (24 * i + 0) = (c : Int) by rw [(hkk 11 (by decide)).2.2.1]; exact w4 0 c (by rw [hcv]; rfl)] at q
          exact q
        have y2 : f_Expressions_symbolAt_11 (i : Int) 1 g = some ((v : Int), g) := by
          have q := e_symbolAt_11 g i 1 (by omega) (by decide)
          rw [show g.2.2.1 11 (24 * i + 1) = (v : Int) by rw [(hkk 11 (by decide)).2.2.1]; exact w4 1 v (by rw [hcv]; rfl)] at q
          exact q
        have hhd : (stR S r).head? = some h0 := by rw [hstR, List.head?_eq_getElem?]; exact hh0
        have hbs : bindS S (i :: hsF s.mand d (i + 1)) r σ = if h0 = c then bindS S (hsF s.mand d (i + 1)) (r + 1) (am_upd σ v r) else none := by
          show (if kindS S i = 0 then (if (stR S r).head? = (rowS S i).head? then bindS S (hsF s.mand d (i + 1)) (r + 1) (am_upd σ ((rowS S i)[1]?.getD 0) r) else none) else _) = _
          rw [if_pos (by rw [hkz]; exact hk0), hhd, hrz, hcv]
          show (if some h0 = some c then bindS S (hsF s.mand d (i + 1)) (r + 1) (am_upd σ v r) else none) = _
          by_cases q : h0 = c
          · rw [if_pos q, if_pos (by rw [q])]
          · rw [if_neg q, if_neg (fun w => q (by injection w))]
        rw [hbs, if_pos (by omega), bd_some y0, bd_some y1, if_pos (by omega), if_pos (by omega)]
        by_cases q : h0 = c
        · rw [if_pos (by omega), if_pos q, bd_some y2, if_pos (by omega), t1, t2]
          refine ih m (i + 1) (r + 1) (am_upd σ v r) (gA g 42 (v : Int) (r : Int)) (by omega) (by omega) (hkk.tr (KK.a (by omega) KK.rf)) (by omega) (fun v' hv' => ?_)
          show am_upd (g.2.2.1 42) v (r : Int) v' = ((am_upd σ v r v' : Nat) : Int) ∧ am_upd σ v r v' < S.stk.length
          by_cases qv : v' = v
          · subst qv; rw [updN_at, updN_at]; exact ⟨rfl, by omega⟩
          · rw [am_updN qv, am_updN qv]
            obtain ⟨f, g1, g2, g3, g4⟩ := hv'
            rcases Nat.lt_or_ge f i with qf | qf
            · exact hrp v' ⟨f, g1, qf, g3, g4⟩
            · have : f = i := by omega
              subst this
              rw [hrz, hcv] at g4
              injection g4 with g4
              exact absurd g4.symm qv
        · rw [if_neg (by omega), if_neg q]
          exact ⟨g, rfl, hkk, fun σ' h => by cases h⟩
      · have hk1' : z.kind = 1 := by omega
        have hN' := hN.kk hkk (by decide)
        have hS' : CS S g := hS.kk hkk (by decide)
        have hP' := hP.kk hkk (by decide)
        obtain ⟨g1, a1, a2, a3⟩ := c_replaceIn hN' hS' hP' (z38 h38 hkk (by decide)) hs i16 iSt n60 σ i z hz (by omega) z2 (fun v hv hrv => hrp v (b3 i (by omega) hbit (by rw [hkz]; exact hk1') v (by rw [hrz]; exact hv) hrv))
        have hbs : bindS S (i :: hsF s.mand d (i + 1)) r σ = if e.1 = (repS S σ z.row).1 then bindS S (hsF s.mand d (i + 1)) (r + 1) σ else none := by
          show (if kindS S i = 0 then _ else (if stR S r = (repS S σ (rowS S i)).1 then bindS S (hsF s.mand d (i + 1)) (r + 1) σ else none)) = _
          rw [if_neg (by rw [hkz]; exact hk0), hrz, hstR]
        rw [hbs, if_neg (by omega), bd_some a1]
        by_cases hlen : (repS S σ z.row).1.length ≤ 24
        · have hd : decide ((repS S σ z.row).1.length ≤ 24) = true := decide_eq_true hlen
          rw [hd, if_pos (by decide), if_neg (by decide)]
          obtain ⟨x1, x2, x3, x4⟩ := a3 hlen
          have hsm := c_same39 (g := g1) r (by omega) e.1 (repS S σ z.row).1 (by rw [(a2 36 (by decide)).2.2.1, (hkk 36 (by decide)).2.2.1]; exact f2) x2 ⟨u2, hlen⟩ (by rw [(a2 35 (by decide)).2.2.1, (hkk 35 (by decide)).2.2.1]; exact f1) x3 ⟨fun v hv => by have := (u3 v hv).1; omega, fun v hv => by have := repS_lt iSt z.row (fun w hw => (z2.2.2.1 w hw).1) v hv; omega⟩
          rw [bd_some hsm]
          by_cases q : e.1 = (repS S σ z.row).1
          · rw [if_pos q, decide_eq_true q, if_pos (by decide), if_neg (by decide), t1, t2]
            refine ih m (i + 1) (r + 1) σ g1 (by omega) (by omega) (hkk.tr a2.b4) (by omega) (fun v hv => ?_)
            obtain ⟨f, g1', g2, g3, g4⟩ := hv
            rw [(a2 42 (by decide)).2.2.1]
            rcases Nat.lt_or_ge f i with qf | qf
            · exact hrp v ⟨f, g1', qf, g3, g4⟩
            · have : f = i := by omega
              subst this
              rw [hkz] at g3
              omega
          · rw [if_neg q, decide_eq_false q, if_pos (by decide), if_pos (by decide)]
            exact ⟨g1, rfl, hkk.tr a2.b4, fun σ' h => by cases h⟩
        · have hd : decide ((repS S σ z.row).1.length ≤ 24) = false := decide_eq_false hlen
          have q : e.1 ≠ (repS S σ z.row).1 := fun w => hlen (by rw [← w]; exact u2)
          rw [hd, if_pos (by decide), if_pos (by decide), if_neg q]
          exact ⟨g1, rfl, hkk.tr a2.b4, fun σ' h => by cases h⟩
theorem c_areApart {S : RSt} {g : G2} (hX : CX S g) (x y : Int64) : ∀ (d m i : Nat), i + d = 60 → d < m → ∃ r : Int, l_Context_areApart_27 m 0 x y (i : Int) g = some (r, g) ∧ ((r = 1 ∧ ∀ v, i ≤ v → v < 60 → tb x v = true → ∀ w, w < 64 → tb y w = true → tb (apOf S.prs v) w = true) ∨ (r = 0 ∧ ¬ ∀ v, i ≤ v → v < 60 → tb x v = true → ∀ w, w < 64 → tb y w = true → tb (apOf S.prs v) w = true)) := by
  have h28 := hX.2.2.2.1
  intro d
  induction d with
  | zero =>
    intro m i hi hm
    obtain ⟨m, rfl⟩ : ∃ m', m = m' + 1 := ⟨m - 1, by omega⟩
    refine ⟨1, ?_, Or.inl ⟨rfl, fun v h1 h2 => by omega⟩⟩
    rw [s_Context_areApart_27_0]
    unfold b_Context_areApart_27_0
    rw [if_pos (by omega), if_neg (by omega)]
  | succ d ih =>
    intro m i hi hm
    obtain ⟨m, rfl⟩ : ∃ m', m = m' + 1 := ⟨m - 1, by omega⟩
    rw [s_Context_areApart_27_0]
    unfold b_Context_areApart_27_0
    rw [if_pos (by omega), if_pos (by omega)]
    by_cases hz : am_ushr x (i : Int) = Int64.ofNat 0
    · rw [if_pos hz]
      refine ⟨1, rfl, Or.inl ⟨rfl, fun v h1 h2 h3 => ?_⟩⟩
      have := (tb_eq0 _).mp hz (v - i) (by omega)
      rw [tb_ushr x (by omega), show i + (v - i) = v by omega, h3] at this
      cases this
    · rw [if_neg hz]
      obtain ⟨r, a1, a2⟩ := ih m (i + 1) (by omega) (by omega)
      have t1 : ((i : Int) + 1) = ((i + 1 : Nat) : Int) := rfl
      by_cases hbx : tb x i = true
      · rw [if_neg (by rw [tb_t (by omega)]; simpa using hbx), if_pos (by omega)]
        have e28 : rB g 28 ((i : Nat) : Int) = apOf S.prs i := h28 i (by omega)
        rw [e28]
        have key : (y &&& ((apOf S.prs i) ^^^ (Int64.ofNat 18446744073709551615))) = (Int64.ofNat 0) ↔ ∀ w, w < 64 → tb y w = true → tb (apOf S.prs i) w = true := by
          rw [tb_eq0]
          constructor
          · intro h w hw hyw
            have := h w hw
            rw [tb_and, tb_xor, tb_m1 w hw, hyw] at this
            simpa using this
          · intro h w hw
            rw [tb_and, tb_xor, tb_m1 w hw]
            cases hyw : tb y w with
            | false => rfl
            | true => rw [h w hw hyw]; rfl
        by_cases hk : (y &&& ((apOf S.prs i) ^^^ (Int64.ofNat 18446744073709551615))) = (Int64.ofNat 0)
        · rw [if_pos hk, t1, a1]
          refine ⟨r, rfl, ?_⟩
          rcases a2 with ⟨q1, q2⟩ | ⟨q1, q2⟩
          · refine Or.inl ⟨q1, fun v h1 h2 h3 => ?_⟩
            rcases Nat.lt_or_ge i v with q | q
            · exact q2 v (by omega) h2 h3
            · have : v = i := by omega
              subst this
              exact key.mp hk
          · exact Or.inr ⟨q1, fun h => q2 (fun v h1 h2 h3 => h v (by omega) h2 h3)⟩
        · rw [if_neg hk]
          exact ⟨0, rfl, Or.inr ⟨rfl, fun h => hk (key.mpr (h i (by omega) (by omega) hbx))⟩⟩
      · rw [if_pos (by rw [tb_t (by omega)]; exact hbx), t1, a1]
        refine ⟨r, rfl, ?_⟩
        rcases a2 with ⟨q1, q2⟩ | ⟨q1, q2⟩
        · refine Or.inl ⟨q1, fun v h1 h2 h3 => ?_⟩
          rcases Nat.lt_or_ge i v with q | q
          · exact q2 v (by omega) h2 h3
          · have : v = i := by omega
            subst this
            exact absurd h3 hbx
        · exact Or.inr ⟨q1, fun h => q2 (fun v h1 h2 h3 => h v (by omega) h2 h3)⟩
theorem c_keepsL {S : RSt} {g : G2} (hX : CX S g) (hP : CPf S g) (hs : 10 ≤ S.stage) (h16 : S.stk.length ≤ 16) (n60 : S.nms.length ≤ 60) (j : Nat) (hj : j < 40) (l : List (Nat × Nat)) (σ : Nat → Nat) (h18 : g.2.2.1 18 j = (l.length : Int)) (h19 : ∀ (u : Nat) (p : Nat × Nat), l[u]? = some p → g.2.2.1 19 (40 * j + u) = 60 * (p.1 : Int) + p.2) (hl40 : l.length ≤ 40) (hl : ∀ p ∈ l, p.1 < p.2 ∧ p.2 < S.nms.length ∧ (g.2.2.1 42 p.1 = (σ p.1 : Int) ∧ σ p.1 < S.stk.length) ∧ (g.2.2.1 42 p.2 = (σ p.2 : Int) ∧ σ p.2 < S.stk.length)) : ∀ (d m i : Nat), i + d = l.length → d < m → ∃ r : Int, l_Proof_keepsApart_34 m 0 (j : Int) (i : Int) g = some (r, g) ∧ ((r = 1 ∧ ∀ (u : Nat) (p : Nat × Nat), i ≤ u → l[u]? = some p → apartS S (stV S (σ p.1)) (stV S (σ p.2))) ∨ (r = 0 ∧ ¬ ∀ (u : Nat) (p : Nat × Nat), i ≤ u → l[u]? = some p → apartS S (stV S (σ p.1)) (stV S (σ p.2)))) := by
  have e18 : rA g 18 ((j : Nat) : Int) = (l.length : Int) := h18
  obtain ⟨p1, p2, p3⟩ := hP hs
  intro d
  induction d with
  | zero =>
    intro m i hi hm
    obtain ⟨m, rfl⟩ : ∃ m', m = m' + 1 := ⟨m - 1, by omega⟩
    refine ⟨1, ?_, Or.inl ⟨rfl, fun u p h1 h2 => by have := lt_get h2; omega⟩⟩
    rw [s_Proof_keepsApart_34_0]
    unfold b_Proof_keepsApart_34_0
    rw [if_pos (by omega), if_pos (by omega), e18, if_pos (by omega), if_neg (by omega)]
  | succ d ih =>
    intro m i hi hm
    obtain ⟨m, rfl⟩ : ∃ m', m = m' + 1 := ⟨m - 1, by omega⟩
    obtain ⟨p, hp⟩ := ex_get (l := l) (k := i) (by omega)
    obtain ⟨q1, q2, ⟨q3, q4⟩, q5, q6⟩ := hl p (List.mem_of_getElem? hp)
    have e19 := h19 i p hp
    have y1 : f_Assertions_firstOfPair_17 (j : Int) (i : Int) g = some ((p.1 : Int), g) := by
      rw [e_first g j i hj (by omega) (by omega), e19, show (60 * (p.1 : Int) + p.2) / 60 = p.1 by omega]
    have y2 : f_Assertions_secondOfPair_17 (j : Int) (i : Int) g = some ((p.2 : Int), g) := by
      rw [e_second g j i hj (by omega) (by omega), e19, show (60 * (p.1 : Int) + p.2) % 60 = p.2 by omega]
    obtain ⟨e, he⟩ := ex_get q4
    obtain ⟨f, hf⟩ := ex_get q6
    have z1 : rA g 42 ((p.1 : Nat) : Int) = (σ p.1 : Int) := q3
    have z2 : rA g 42 ((p.2 : Nat) : Int) = (σ p.2 : Int) := q5
    have v1 : stV S (σ p.1) = e.2 := by unfold stV; rw [he]; rfl
    have v2 : stV S (σ p.2) = f.2 := by unfold stV; rw [hf]; rfl
    have w1 : rB g 37 ((σ p.1 : Nat) : Int) = e.2 := (p2 _ e he).2.2
    have w2 : rB g 37 ((σ p.2 : Nat) : Int) = f.2 := (p2 _ f hf).2.2
    rw [s_Proof_keepsApart_34_0]
    unfold b_Proof_keepsApart_34_0
    rw [if_pos (by omega), if_pos (by omega), e18, if_pos (by omega), if_pos (by omega), bd_some y1, if_pos (by omega), bd_some y2, if_pos (by omega), z1, z2, if_pos (by omega), if_pos (by omega), w1, w2]
    obtain ⟨r, a1, a2⟩ := c_areApart hX e.2 f.2 60 20000 0 (by omega) (by omega)
    have a1' : f_Context_areApart_27 e.2 f.2 g = some (r, g) := a1
    rw [bd_some a1']
    have t1 : ((i : Int) + 1) = ((i + 1 : Nat) : Int) := rfl
    rcases a2 with ⟨b1, b2⟩ | ⟨b1, b2⟩
    · rw [b1, if_pos (by decide), if_neg (by decide), t1]
      obtain ⟨r', c1, c2⟩ := ih m (i + 1) (by omega) (by omega)
      refine ⟨r', c1, ?_⟩
      rcases c2 with ⟨d1, d2⟩ | ⟨d1, d2⟩
      · refine Or.inl ⟨d1, fun u p' h1 h2 => ?_⟩
        rcases Nat.lt_or_ge i u with q | q
        · exact d2 u p' (by omega) h2
        · have : u = i := by omega
          subst this
          rw [hp] at h2
          injection h2 with h2
          subst h2
          rw [v1, v2]
          exact fun v hv => b2 v (by omega) hv
      · exact Or.inr ⟨d1, fun h => d2 (fun u p' h1 h2 => h u p' (by omega) h2)⟩
    · rw [b1, if_pos (by decide), if_pos rfl]
      refine ⟨0, rfl, Or.inr ⟨rfl, fun h => b2 (fun v _ hv => ?_)⟩⟩
      have := h i p (by omega) hp
      rw [v1, v2] at this
      exact this v hv
