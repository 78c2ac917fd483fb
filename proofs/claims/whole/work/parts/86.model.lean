/-! ===== the model: an assertion is used ===== -/
abbrev S67 (g g' : G2) : Prop := KK (fun r => r ≠ 86 ∧ r ≠ 87) g g'
def RPm (S : RSt) (g : G2) (x : Int64) (σ : Nat → Nat) (i : Nat) : Prop := ∀ v, FV S (fun h => tb x h = true) v i → g.2.2.1 86 v = (σ v : Int) ∧ σ v < S.stk.length
theorem MSt.kk {S : RSt} {g g' : G2} {P : Nat → Prop} (h : MSt S g) (k : KK P g g') (p : P 49 ∧ P 58 ∧ P 59 ∧ P 60 ∧ P 61 ∧ P 64) : MSt S g' := by
  obtain ⟨p1, p2, p3, p4, p5, p6⟩ := p
  unfold MSt rI at *
  rw [(k 49 p1).1, (k 58 p2).2.2.1, (k 59 p3).2.2.1, (k 60 p4).2.2.1, (k 61 p5).2.2.1, (k 64 p6).2.2.1]; exact h
theorem MPr.kk {S : RSt} {g g' : G2} {P : Nat → Prop} (h : MPr S g) (k : KK P g g') (p : P 49 ∧ P 65 ∧ P 66 ∧ P 67) : MPr S g' := by
  obtain ⟨p1, p2, p3, p4⟩ := p
  unfold MPr rI at *
  rw [(k 49 p1).1, (k 65 p2).2.2.1, (k 66 p3).2.2.1, (k 67 p4).2.2.1]; exact h
theorem m_bindL {S : RSt} {g0 : G2} (hN : MN S g0) (hS : MSt S g0) (h83 : StkM (g0.2.2.1 82) (g0.2.2.1 83) S.stk) (hi : Iv S) (hs : 10 ≤ S.stage) (k j base : Nat) (s : RSm) (hk : S.sms[k]? = some s) (hj : j < 40) (hNd : NdAt g0 j (hsOf k s.mand)) (hb : Bnd S k s.mand s.row (prsS S s.asn)) : ∀ (d m q : Nat) (σ : Nat → Nat) (g : G2), q + d = k → 2 * d + 1 < m → S67 g0 g → base + (hsOf q s.mand).length + (hsF s.mand d q).length = S.stk.length → RPm S g s.mand σ q →
    (bindS S (hsF s.mand d q) (base + (hsOf q s.mand).length) σ = none → ∃ g', l_M_apply_50 m 0 (j : Int) ((hsOf k s.mand).length : Int) (base : Int) ((hsOf q s.mand).length : Int) 0 g = some (-10, g') ∧ S67 g0 g') ∧ (∀ σ', bindS S (hsF s.mand d q) (base + (hsOf q s.mand).length) σ = some σ' → ∃ (m' : Nat) (g' : G2), m ≤ m' + 2 * d + 1 ∧ l_M_apply_50 m 0 (j : Int) ((hsOf k s.mand).length : Int) (base : Int) ((hsOf q s.mand).length : Int) 0 g = l_M_apply_50 m' 2 (j : Int) 0 (base : Int) (40 * (j : Int)) 0 g' ∧ S67 g0 g' ∧ RPm S g' s.mand σ' k) := by
  have m40 : S.sms.length ≤ 40 := hi.1.2.1
  have n60 := hi.1.1
  have hlk := lt_get hk
  obtain ⟨_, _, _, _, i16, iSt, _⟩ := hi.2.2.2.2.2.2.2.1 hs
  obtain ⟨b1, b2, b3, b4⟩ := hb
  intro d
  induction d with
  | zero =>
    intro m q σ g hqd hm hkk hr hrp
    obtain ⟨m, rfl⟩ : ∃ m', m = m' + 1 := ⟨m - 1, by omega⟩
    have e : q = k := by omega
    subst e
    have hl : (hsOf q s.mand).length ≤ 16 := by omega
    have e0 : l_M_apply_50 (m + 1) 0 (j : Int) ((hsOf q s.mand).length : Int) (base : Int) ((hsOf q s.mand).length : Int) 0 g = l_M_apply_50 m 2 (j : Int) 0 (base : Int) (40 * (j : Int)) 0 g := by
      rw [s_M_apply_50_0]
      unfold b_M_apply_50_0
      rw [if_pos (by omega), if_pos (by omega), if_neg (by omega)]
    refine ⟨fun z => ?_, fun σ' z => ⟨m, g, by omega, e0, hkk, ?_⟩⟩
    · have z2 : some σ = none := z
      cases z2
    · have z2 : some σ = some σ' := z
      injection z2 with z2
      subst z2
      exact hrp
  | succ d ih =>
    intro m q σ g hqd hm hkk hr hrp
    cases hbit : tb s.mand q with
    | false =>
      have hh : hsF s.mand (d + 1) q = hsF s.mand d (q + 1) := by show (if _ then _ else _) = _; rw [hbit]; rfl
      have h1 : hsOf (q + 1) s.mand = hsOf q s.mand := by rw [hsOf_succ, hbit]; simp
      rw [hh] at hr ⊢
      have := ih m (q + 1) σ g (by omega) (by omega) hkk (by rw [h1]; exact hr) (fun v hv => by
        obtain ⟨f, f1, f2, f3⟩ := hv
        rcases Nat.lt_or_ge f q with z | z
        · exact hrp v ⟨f, f1, z, f3⟩
        · have : f = q := by omega
          subst this
          rw [hbit] at f1; cases f1)
      rw [h1] at this
      refine ⟨this.1, fun σ' z => ?_⟩
      obtain ⟨m', g', y1, y2⟩ := this.2 σ' z
      exact ⟨m', g', by omega, y2⟩
    | true =>
      obtain ⟨m, rfl⟩ : ∃ m', m = m' + 2 := ⟨m - 2, by omega⟩
      have hh : hsF s.mand (d + 1) q = q :: hsF s.mand d (q + 1) := by show (if _ then _ else _) = _; rw [hbit]; rfl
      have h1 : hsOf (q + 1) s.mand = hsOf q s.mand ++ [q] := by rw [hsOf_succ, hbit]; simp
      have h1l : (hsOf (q + 1) s.mand).length = (hsOf q s.mand).length + 1 := by rw [h1, List.length_append]; rfl
      rw [hh] at hr ⊢
      rw [List.length_cons] at hr
      have hall : hsOf k s.mand = hsOf q s.mand ++ (q :: hsF s.mand d (q + 1)) := by
        have := hsF_eq s.mand (d + 1) q
        rw [hqd, hh] at this; exact this
      have hidx : (hsOf k s.mand)[(hsOf q s.mand).length]? = some q := by rw [hall, List.getElem?_append_right (Nat.le_refl _)]; simp
      have hln : (hsOf k s.mand).length = (hsOf q s.mand).length + (1 + (hsF s.mand d (q + 1)).length) := by rw [hall, List.length_append, List.length_cons]; omega
      have e69 : rA g 69 ((40 * (j : Int)) + ((hsOf q s.mand).length : Int)) = (q : Int) := by
        show g.2.2.1 69 ((40 * (j : Int)) + ((hsOf q s.mand).length : Int)).toNat = _
        rw [(hkk 69 (by decide)).2.2.1, show ((40 * (j : Int)) + ((hsOf q s.mand).length : Int)).toNat = 40 * j + (hsOf q s.mand).length by omega]
        exact hNd.2 _ q hidx
      obtain ⟨z, hz⟩ := ex_get (l := S.sms) (k := q) (by omega)
      obtain ⟨z1, z2, z3, z4, z5⟩ := hi.2.2.1 q z hz
      have hkz := kind_get hz
      have hrz := row_get hz
      have hk1 : z.kind ≤ 1 := by rw [← hkz]; exact (b1 q (by omega) hbit).2
      obtain ⟨w1, w2, w3, w4, w5⟩ := hS.2 q z hz
      have e58 : rA g 58 ((q : Nat) : Int) = (z.kind : Int) + 4 := by show g.2.2.1 58 q = _; rw [(hkk 58 (by decide)).2.2.1]; exact w1
      obtain ⟨e, he⟩ := ex_get (l := S.stk) (k := base + (hsOf q s.mand).length) (by omega)
      have hstR : stR S (base + (hsOf q s.mand).length) = e.1 := by unfold stR; rw [he]; rfl
      obtain ⟨f1, f2⟩ := h83 _ e he
      obtain ⟨⟨u1, u2, u3, u4⟩, u5⟩ := iSt e (List.mem_of_getElem? he)
      have ebi : ((base : Int) + ((hsOf q s.mand).length : Int)) = ((base + (hsOf q s.mand).length : Nat) : Int) := by omega
      have t1 : ∀ gg : G2, l_M_apply_50 (m + 1) 1 (j : Int) ((hsOf k s.mand).length : Int) (base : Int) ((hsOf q s.mand).length : Int) 0 gg = l_M_apply_50 m 0 (j : Int) ((hsOf k s.mand).length : Int) (base : Int) ((hsOf (q + 1) s.mand).length : Int) 0 gg := fun gg => by
        rw [s_M_apply_50_1, h1l]
        rfl
      by_cases hk0 : z.kind = 0
      · obtain ⟨c, v, hcv, hrv⟩ := z4 hk0
        have hvn : v < S.nms.length := (z2.2.2.1 v (by rw [hcv]; simp)).1
        have hcn : c < S.nms.length := (z2.2.2.1 c (by rw [hcv]; simp)).1
        obtain ⟨h0, hh0⟩ := ex_get (l := e.1) (k := 0) (by omega)
        have hh0n := (u3 h0 (List.mem_of_getElem? hh0)).1
        have e82 : rA g 82 (24 * ((base : Int) + ((hsOf q s.mand).length : Int))) = (h0 : Int) := by
          show g.2.2.1 82 (24 * ((base : Int) + ((hsOf q s.mand).length : Int))).toNat = _
          rw [(hkk 82 (by decide)).2.2.1, show (24 * ((base : Int) + ((hsOf q s.mand).length : Int))).toNat = 24 * (base + (hsOf q s.mand).length) + 0 by omega]
          exact f1 0 h0 hh0
        have e60 : rA g 60 (24 * (q : Int)) = (c : Int) := by
          show g.2.2.1 60 (24 * (q : Int)).toNat = _
          rw [(hkk 60 (by decide)).2.2.1, show (24 * (q : Int)).toNat = 24 * q + 0 by omega]
          exact w4 0 c (by rw [hcv]; rfl)
        have e601 : rA g 60 ((24 * (q : Int)) + 1) = (v : Int) := by
          show g.2.2.1 60 ((24 * (q : Int)) + 1).toNat = _
          rw [(hkk 60 (by decide)).2.2.1, show ((24 * (q : Int)) + 1).toNat = 24 * q + 1 by omega]
          exact w4 1 v (by rw [hcv]; rfl)
        have hhd : (stR S (base + (hsOf q s.mand).length)).head? = some h0 := by rw [hstR, List.head?_eq_getElem?]; exact hh0
        have hbs : bindS S (q :: hsF s.mand d (q + 1)) (base + (hsOf q s.mand).length) σ = if h0 = c then bindS S (hsF s.mand d (q + 1)) (base + (hsOf (q + 1) s.mand).length) (am_upd σ v (base + (hsOf q s.mand).length)) else none := by
          show (if kindS S q = 0 then (if (stR S (base + (hsOf q s.mand).length)).head? = (rowS S q).head? then bindS S (hsF s.mand d (q + 1)) (base + (hsOf q s.mand).length + 1) (am_upd σ ((rowS S q)[1]?.getD 0) (base + (hsOf q s.mand).length)) else none) else _) = _
          rw [if_pos (by rw [hkz]; exact hk0), hhd, hrz, hcv, h1l]
          show (if some h0 = some c then bindS S (hsF s.mand d (q + 1)) (base + (hsOf q s.mand).length + 1) (am_upd σ v (base + (hsOf q s.mand).length)) else none) = _
          by_cases qq : h0 = c
          · rw [if_pos qq, if_pos (by rw [qq])]; rfl
          · rw [if_neg qq, if_neg (fun w => qq (by injection w))]
        have hl : l_M_apply_50 (m + 2) 0 (j : Int) ((hsOf k s.mand).length : Int) (base : Int) ((hsOf q s.mand).length : Int) 0 g = if h0 = c then l_M_apply_50 (m + 1) 1 (j : Int) ((hsOf k s.mand).length : Int) (base : Int) ((hsOf q s.mand).length : Int) 0 (gA g 86 (v : Int) ((base + (hsOf q s.mand).length : Nat) : Int)) else some (-10, g) := by
          rw [show m + 2 = (m + 1) + 1 by omega, s_M_apply_50_0]
          unfold b_M_apply_50_0
          rw [if_pos (by omega), if_pos (by omega), if_pos (by omega), if_pos (by omega), e69, if_pos (by omega), e58, if_pos (by omega), if_pos (by omega), if_pos (by omega), if_pos (by omega), e82, if_pos (by omega), e60, if_pos (by omega)]
          by_cases qq : h0 = c
          · rw [if_pos (by omega), if_pos (by omega), e601, if_pos (by omega), ebi, if_pos qq]
          · rw [if_neg (by omega), if_neg qq]
        rw [hbs, hl]
        by_cases qq : h0 = c
        · rw [if_pos qq, if_pos qq]
          have hnx := ih m (q + 1) (am_upd σ v (base + (hsOf q s.mand).length)) (gA g 86 (v : Int) ((base + (hsOf q s.mand).length : Nat) : Int)) (by omega) (by omega) (hkk.tr (KK.a (by decide) KK.rf)) (by omega) (fun v' hv' => by
            show am_upd (g.2.2.1 86) v ((base + (hsOf q s.mand).length : Nat) : Int) v' = ((am_upd σ v (base + (hsOf q s.mand).length) v' : Nat) : Int) ∧ am_upd σ v (base + (hsOf q s.mand).length) v' < S.stk.length
            by_cases qv : v' = v
            · subst qv; rw [updN_at, updN_at]; exact ⟨rfl, by omega⟩
            · rw [am_updN qv, am_updN qv]
              obtain ⟨f, y1, y2, y3, y4⟩ := hv'
              rcases Nat.lt_or_ge f q with qf | qf
              · exact hrp v' ⟨f, y1, qf, y3, y4⟩
              · have : f = q := by omega
                subst this
                rw [hrz, hcv] at y4
                injection y4 with y4
                exact absurd y4.symm qv)
          refine ⟨fun y => ?_, fun σ' y => ?_⟩
          · rw [t1]; exact hnx.1 y
          · obtain ⟨m', g', y1, y2⟩ := hnx.2 σ' y
            exact ⟨m', g', by omega, by rw [t1]; exact y2⟩
        · rw [if_neg qq, if_neg qq]
          exact ⟨fun _ => ⟨g, rfl, hkk⟩, fun σ' y => by cases y⟩
      · have hk1' : z.kind = 1 := by omega
        obtain ⟨g1, a1, a2, a3, a4⟩ := m_replace hi (hN.kk hkk (by decide)) (hS.kk hkk (by decide)) (by rw [(hkk 82 (by decide)).2.2.1, (hkk 83 (by decide)).2.2.1]; exact h83) i16 iSt σ q z hz (fun v hv hrv => hrp v (b3 q (by omega) hbit (by rw [hkz]; exact hk1') v (by rw [hrz]; exact hv) hrv))
        have hk1 : S67 g0 g1 := hkk.tr (a2.mono (fun r hr => hr.2))
        have hsm := m_isMade (g := g1) (base + (hsOf q s.mand).length) (by omega) e.1 (repS S σ z.row).1 (by rw [(hk1 83 (by decide)).2.2.1]; exact f2) u2 a4 (by rw [(hk1 82 (by decide)).2.2.1]; exact f1) a3 ⟨fun v hv => by have := (u3 v hv).1; omega, fun v hv => by have := repS_lt iSt z.row (fun w hw => (z2.2.2.1 w hw).1) v hv; omega⟩
        have hbs : bindS S (q :: hsF s.mand d (q + 1)) (base + (hsOf q s.mand).length) σ = if e.1 = (repS S σ z.row).1 then bindS S (hsF s.mand d (q + 1)) (base + (hsOf (q + 1) s.mand).length) σ else none := by
          show (if kindS S q = 0 then _ else (if stR S (base + (hsOf q s.mand).length) = (repS S σ (rowS S q)).1 then bindS S (hsF s.mand d (q + 1)) (base + (hsOf q s.mand).length + 1) σ else none)) = _
          rw [if_neg (by rw [hkz]; exact hk0), hrz, hstR, h1l]; rfl
        have hl : l_M_apply_50 (m + 2) 0 (j : Int) ((hsOf k s.mand).length : Int) (base : Int) ((hsOf q s.mand).length : Int) 0 g = if e.1 = (repS S σ z.row).1 then l_M_apply_50 (m + 1) 1 (j : Int) ((hsOf k s.mand).length : Int) (base : Int) ((hsOf q s.mand).length : Int) 0 g1 else some (-10, g1) := by
          rw [show m + 2 = (m + 1) + 1 by omega, s_M_apply_50_0]
          unfold b_M_apply_50_0
          rw [if_pos (by omega), if_pos (by omega), if_pos (by omega), if_pos (by omega), e69, if_pos (by omega), e58, if_pos (by omega), if_neg (by omega), bd_some a1, ebi, bd_some hsm, if_pos (b01_ir _)]
          by_cases qq : e.1 = (repS S σ z.row).1
          · rw [decide_eq_true qq, if_neg (by decide), if_pos qq]
          · rw [decide_eq_false qq, if_pos (by decide), if_neg qq]
        rw [hbs, hl]
        by_cases qq : e.1 = (repS S σ z.row).1
        · rw [if_pos qq, if_pos qq]
          have hnx := ih m (q + 1) σ g1 (by omega) (by omega) hk1 (by omega) (fun v hv => by
            obtain ⟨f, y1, y2, y3, y4⟩ := hv
            rw [(a2 86 (by decide)).2.2.1]
            rcases Nat.lt_or_ge f q with qf | qf
            · exact hrp v ⟨f, y1, qf, y3, y4⟩
            · have : f = q := by omega
              subst this
              rw [hkz] at y3
              omega)
          refine ⟨fun y => ?_, fun σ' y => ?_⟩
          · rw [t1]; exact hnx.1 y
          · obtain ⟨m', g', y1, y2⟩ := hnx.2 σ' y
            exact ⟨m', g', by omega, by rw [t1]; exact y2⟩
        · rw [if_neg qq, if_neg qq]
          exact ⟨fun _ => ⟨g1, rfl, hk1⟩, fun σ' y => by cases y⟩
theorem okP_symm {S : RSt} {u v : Nat} (h : okP S u v) : okP S v u := fun h1 h2 => ⟨fun z => (h h2 h1).1 z.symm, (h h2 h1).2.symm⟩
theorem apart_symm {S : RSt} (hi : Iv S) (hst : StOk S S.stk) {p q : Nat} (hp : p < S.stk.length) (hq : q < S.stk.length) (h : apartS S (stV S p) (stV S q)) : apartS S (stV S q) (stV S p) := by
  obtain ⟨e, he⟩ := ex_get hp
  obtain ⟨f, hf⟩ := ex_get hq
  have v1 : stV S p = e.2 := by unfold stV; rw [he]; rfl
  have v2 : stV S q = f.2 := by unfold stV; rw [hf]; rfl
  rw [v1, v2] at h
  rw [v1, v2]
  have oe := hst e (List.mem_of_getElem? he)
  have of' := hst f (List.mem_of_getElem? hf)
  rw [apart_iff hi of' oe]
  have := (apart_iff hi oe of').mp h
  exact fun u hu v hv => okP_symm (this v hv u hu)
/-- the pairs that must stay apart -/
theorem m_pairsA {S : RSt} {g : G2} (hi : Iv S) (hN : MN S g) (hPr : MPr S g) (h83 : StkM (g.2.2.1 82) (g.2.2.1 83) S.stk) (h16 : S.stk.length ≤ 16) (hst : StOk S S.stk) (j base : Nat) (hj : j < 40) (σ : Nat → Nat) (L : List (Nat × Nat)) (h73 : g.2.2.1 73 j = (L.length : Int)) (h40 : L.length ≤ 40) (hL : ∀ (u : Nat) (p : Nat × Nat), L[u]? = some p → g.2.2.1 71 (40 * j + u) = (p.1 : Int) ∧ g.2.2.1 72 (40 * j + u) = (p.2 : Int)) (hLb : ∀ p ∈ L, (p.1 < 60 ∧ p.2 < 60) ∧ (g.2.2.1 86 p.1 = (σ p.1 : Int) ∧ σ p.1 < S.stk.length) ∧ (g.2.2.1 86 p.2 = (σ p.2 : Int) ∧ σ p.2 < S.stk.length)) : ∀ (k m i : Nat), i + k = L.length → k < m → ((∀ p ∈ L.drop i, apartS S (stV S (σ p.1)) (stV S (σ p.2))) → ∃ m', m = m' + k ∧ l_M_apply_50 m 2 (j : Int) 0 (base : Int) ((40 * j + i : Nat) : Int) 0 g = l_M_apply_50 m' 2 (j : Int) 0 (base : Int) ((40 * j + L.length : Nat) : Int) 0 g) ∧ (¬ (∀ p ∈ L.drop i, apartS S (stV S (σ p.1)) (stV S (σ p.2))) → l_M_apply_50 m 2 (j : Int) 0 (base : Int) ((40 * j + i : Nat) : Int) 0 g = some (-11, g)) := by
  have e73 : rA g 73 ((j : Nat) : Int) = (L.length : Int) := h73
  intro k
  induction k with
  | zero =>
    intro m i hi' hm
    have e : i = L.length := by omega
    subst e
    refine ⟨fun _ => ⟨m, rfl, rfl⟩, fun z => absurd (fun p hp => ?_) z⟩
    rw [List.drop_eq_nil_of_le (by omega)] at hp; cases hp
  | succ k ih =>
    intro m i hi' hm
    obtain ⟨m, rfl⟩ : ∃ m', m = m' + 1 := ⟨m - 1, by omega⟩
    obtain ⟨p, hp⟩ := ex_get (l := L) (k := i) (by omega)
    obtain ⟨w1, w2⟩ := hL i p hp
    obtain ⟨⟨p1, p2⟩, ⟨q1, q2⟩, q3, q4⟩ := hLb p (List.mem_of_getElem? hp)
    have e71 : rA g 71 ((40 * j + i : Nat) : Int) = (p.1 : Int) := w1
    have e72 : rA g 72 ((40 * j + i : Nat) : Int) = (p.2 : Int) := w2
    have e86 : rA g 86 ((p.1 : Nat) : Int) = (σ p.1 : Int) := q1
    have e86' : rA g 86 ((p.2 : Nat) : Int) = (σ p.2 : Int) := q3
    obtain ⟨r, a1, a2⟩ := m_allApart hi hN hPr h83 h16 hst (σ p.1) (σ p.2) q2 q4
    obtain ⟨y1, y2⟩ := ih m (i + 1) (by omega) (by omega)
    have t1 : (((40 * j + i : Nat) : Int) + 1) = ((40 * j + (i + 1) : Nat) : Int) := by omega
    rw [s_M_apply_50_2]
    unfold b_M_apply_50_2
    rw [if_pos (by omega), if_pos (by omega), e73, if_pos (by omega), if_pos (by omega), if_pos (by omega), e71, if_pos (by omega), e72, if_pos (by omega), e86, e86', bd_some a1, if_pos (by rcases a2 with ⟨z, _⟩ | ⟨z, _⟩ <;> rw [z] <;> decide), drop_eq hp]
    rcases a2 with ⟨z1, z2⟩ | ⟨z1, z2⟩
    · rw [z1, if_neg (by decide), t1]
      refine ⟨fun w => ?_, fun w => ?_⟩
      · obtain ⟨m', v1, v2⟩ := y1 (fun x hx => w x (List.mem_cons_of_mem _ hx))
        exact ⟨m', by omega, v2⟩
      · refine y2 (fun v => w (fun x hx => ?_))
        rcases List.mem_cons.mp hx with hx | hx
        · rw [hx]; exact z2
        · exact v x hx
    · rw [z1, if_pos rfl]
      exact ⟨fun w => absurd (w p (by simp)) z2, fun _ => rfl⟩
theorem m_copyL (base : Nat) (hb : base < 16) (l : List Nat) (h24 : l.length ≤ 24) : ∀ (k m i : Nat) (g : G2), i + k = l.length → k < m → RowAt (g.2.2.1 87) 0 l → RowAt (g.2.2.1 82) (24 * base) (l.take i) → ∃ g', l_M_apply_50 m 4 0 0 (base : Int) (l.length : Int) (i : Int) g = some (0, (gI (gA g' 83 (base : Int) (l.length : Int)) 49 45 ((base : Int) + 1))) ∧ KK (fun r => r ≠ 82) g g' ∧ RowAt (g'.2.2.1 82) (24 * base) l ∧ ∀ p : Nat, p < 24 * base → g'.2.2.1 82 p = g.2.2.1 82 p := by
  intro k
  induction k with
  | zero =>
    intro m i g hi hm h87 h82
    obtain ⟨m, rfl⟩ : ∃ m', m = m' + 1 := ⟨m - 1, by omega⟩
    rw [List.take_of_length_le (by omega)] at h82
    refine ⟨g, ?_, KK.rf, h82, fun _ _ => rfl⟩
    rw [s_M_apply_50_4]
    unfold b_M_apply_50_4
    rw [if_pos (by omega), if_pos (by omega), if_neg (by omega), if_pos (by omega)]
  | succ k ih =>
    intro m i g hi hm h87 h82
    obtain ⟨m, rfl⟩ : ∃ m', m = m' + 1 := ⟨m - 1, by omega⟩
    obtain ⟨x, hx⟩ := ex_get (l := l) (k := i) (by omega)
    have e87 : rA g 87 ((i : Nat) : Int) = (x : Int) := by have := h87 i x hx; rw [Nat.zero_add] at this; exact this
    have ep : ((24 * (base : Int)) + (i : Int)).toNat = 24 * base + i := by omega
    obtain ⟨g', a1, a2, a3, a4⟩ := ih m (i + 1) (gA g 82 ((24 * (base : Int)) + (i : Int)) (x : Int)) (by omega) (by omega) h87 (by
      show RowAt (am_upd (g.2.2.1 82) ((24 * (base : Int)) + (i : Int)).toNat (x : Int)) (24 * base) (l.take (i + 1))
      rw [ep, take_succ' hx]
      exact h82.app x _ rfl _ (by rw [List.length_take]; omega))
    refine ⟨g', ?_, (KK.a (by decide) KK.rf).tr a2, a3, fun p hp => ?_⟩
    · rw [s_M_apply_50_4]
      unfold b_M_apply_50_4
      rw [if_pos (by omega), if_pos (by omega), if_pos (by omega), if_pos (by omega), if_pos (by omega), e87]
      exact a1
    · rw [a4 p hp]
      show am_upd (g.2.2.1 82) ((24 * (base : Int)) + (i : Int)).toNat _ p = _
      rw [ep, am_updN (by omega)]
