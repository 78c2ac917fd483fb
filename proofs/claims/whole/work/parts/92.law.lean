/-! ===== the two readings leave the same ===== -/
theorem hs_at (x : Int64) (i : Nat) (hx : tb x i = true) : ∀ k, i < k → (hsOf k x)[cnt (tb x) i]? = some i := by
  intro k
  induction k with
  | zero => intro h; omega
  | succ k ih =>
    intro h
    rw [hsOf_succ]
    by_cases q : i < k
    · have := ih q
      rw [List.getElem?_append_left (lt_get this)]
      exact this
    · have e : i = k := by omega
      subst e
      rw [if_pos hx, ← hsOf_cnt]
      exact app_r _ _
theorem role_01 {r : Nat} (h : r ≤ 2) : decide (r = 0) = decide ((((r + 1) % 3 : Nat) : Int) = 1) ∧ decide (r = 1) = decide ((((r + 1) % 3 : Nat) : Int) = 2) := by
  rcases (show r = 0 ∨ r = 1 ∨ r = 2 by omega) with q | q | q <;> subst q <;> decide
theorem role_3 {r : Nat} (h : r ≤ 2) : (((r : Nat) : Int) = 0 ∧ (((r + 1) % 3 : Nat) : Int) = 1) ∨ (((r : Nat) : Int) = 1 ∧ (((r + 1) % 3 : Nat) : Int) = 2) ∨ (((r : Nat) : Int) = 2 ∧ (((r + 1) % 3 : Nat) : Int) = 0) := by
  rcases (show r = 0 ∨ r = 1 ∨ r = 2 by omega) with q | q | q <;> subst q <;> decide
theorem ra_1 {S : RSt} {g : G2} {n : Nat} (hC : CK S g) (hM : MKm S g) (hi : Iv S) (hx : Ex S n) : R0 g S.nms.length S.sms.length S.ass.length ∧ R1 g S.nms.length ∧ R2 g S.nms.length ∧ R3 g S.nms.length S.sms.length := by
  obtain ⟨⟨n1, n2, n3, n4⟩, ⟨s1, s2⟩, ⟨a1, a2⟩, _⟩ := hC
  obtain ⟨⟨m1, m2⟩, ⟨t1, t2⟩, ⟨u1, u2⟩⟩ := hM
  have i0 := hi.1
  have x1 : S.cst = cnt (fun i => decide (rolK S.nms i = 0)) S.nms.length := hx.1.1.2.1
  have x2 : ∀ i, i < 64 → tb S.nvs i = (decide (i < S.nms.length) && decide (rolK S.nms i = 1)) := hx.1.1.2.2
  have hrol : ∀ i, i < S.nms.length → ∃ r, r ≤ 2 ∧ rolK S.nms i = r ∧ g.2.2.1 54 i = (((r + 1) % 3 : Nat) : Int) := fun i hl => by
    obtain ⟨x, hxx⟩ := ex_get (l := S.nms) hl
    exact ⟨x.role, (hi.2.1 i x hxx).1, by unfold rolK; rw [hxx]; rfl, (m2 i x hxx).2.1⟩
  refine ⟨⟨⟨i0.1, i0.2.1, by have := i0.2.1; have := i0.2.2.1; omega⟩, ⟨n1, m1⟩, ⟨s1, t1⟩, a1, u1⟩, ⟨fun i hl => ?_, fun i j hl hl' e => ?_⟩, ⟨?_, fun i h64 => ?_⟩, fun k hk => ?_⟩
  · obtain ⟨x, hxx⟩ := ex_get (l := S.nms) hl
    have c := n4 i x hxx
    have d := m2 i x hxx
    have hr := (hi.2.1 i x hxx).1
    refine ⟨by rw [c.1, d.1], ?_⟩
    rw [c.2.1, d.2.1]
    exact role_3 hr
  · obtain ⟨x, hxx⟩ := ex_get (l := S.nms) hl
    obtain ⟨y, hyy⟩ := ex_get (l := S.nms) hl'
    rw [(n4 i x hxx).1, (n4 j y hyy).1] at e
    exact hx.1.1.1 i j x y hxx hyy e
  · rw [n2, x1, cnt_congr (p := fun i => decide (rolK S.nms i = 0)) (q := fun i => decide (g.2.2.1 54 i = 1)) (fun i hl => by
      obtain ⟨r, r1, r2, r3⟩ := hrol i hl
      show decide _ = decide _
      rw [r2, r3, (role_01 r1).1])]
  · rw [n3, x2 i h64]
    by_cases q : i < S.nms.length
    · obtain ⟨r, r1, r2, r3⟩ := hrol i q
      rw [r2, r3, (role_01 r1).2]
    · rw [decide_eq_false q, Bool.false_and, Bool.false_and]
  · obtain ⟨s, hs⟩ := ex_get (l := S.sms) hk
    have c := s2 k s hs
    obtain ⟨d1, ⟨dd, y, y1, y2, y3⟩, d3, d4, d5⟩ := t2 k s hs
    obtain ⟨o1, o2, _⟩ := hi.2.2.1 k s hs
    refine ⟨⟨by rw [c.2.1]; omega, by rw [c.2.1]; omega, by rw [d1, c.2.1]⟩, ⟨dd, lt_get y1, y2, by rw [c.1, (m2 dd y y1).1, y3]⟩, ⟨s.row.length, o2.1, o2.2.1, c.2.2.1, d3, fun i hl => ?_⟩⟩
    obtain ⟨z, hz⟩ := ex_get (l := s.row) hl
    have := (o2.2.2.1 z (List.mem_of_getElem? hz)).1
    rw [c.2.2.2.1 i z hz, d4 i z hz]
    exact ⟨rfl, by omega, by omega⟩
theorem pr_len {g : G2} {j : Nat} {prs : List (Nat × Nat)} (h : PrAt g j prs) (hn : prs.Nodup) : g.2.2.1 73 j = (prs.length : Int) := by
  obtain ⟨L, l1, l2, l3, l4⟩ := h
  have e1 := nd_len (L.map nrm) prs l3 (fun p hp => (l4 p).mp hp)
  have e2 := nd_len prs (L.map nrm) hn (fun p hp => (l4 p).mpr hp)
  rw [List.length_map] at e1 e2
  rw [l1]
  omega
theorem b01_z (b : Bool) : (!decide (b01 b = 0)) = b := by cases b <;> decide
theorem ra_2 {S : RSt} {g : G2} {n : Nat} (hC : CK S g) (hM : MKm S g) (hi : Iv S) (hx : Ex S n) (hn : n ≤ 1000000) : R4 g S.sms.length S.ass.length ∧ R5 g S.sms.length S.ass.length ∧ R7 g S.ass.length := by
  obtain ⟨_, ⟨s1, s2⟩, ⟨a1, a2⟩, _⟩ := hC
  obtain ⟨_, ⟨t1, t2⟩, ⟨u1, u2⟩⟩ := hM
  have i0 := hi.1
  have i9 := hi.2.2.2.2.2.2.2.2.2
  have hes : cnt (fun j => incK S.ass j) S.ass.length = cnt (fun k => decide (kndK S.sms k = 3) && incK S.ass (asnK S.sms k)) S.sms.length := hx.1.2.1
  refine ⟨fun j hj => ?_, ⟨fun j hj => ?_, fun k hk h7 => ?_, ?_⟩, fun j hj k hk => ?_⟩
  · obtain ⟨x, hxx⟩ := ex_get (l := S.ass) hj
    obtain ⟨c1, c2, c3, c4, c5, c6, c7, c8⟩ := a2 j x hxx
    obtain ⟨d1, d2, d3, d4, d5, d6, d7, d8⟩ := u2 j x hxx
    obtain ⟨j1, j2, j3, j4⟩ := i9 j x hxx
    obtain ⟨e1, e2, e3⟩ := hx.1.2.2 j x hxx
    have hp := pr_len d3 e1
    refine ⟨⟨x.stm, j3, c1, d1⟩, ⟨by rw [c2, hp], by rw [c2]; omega, by rw [c2]; omega, by rw [c2]; omega⟩, ⟨by rw [c4, d4], by rw [c4]; omega⟩, ⟨by rw [c5, d5], by rw [c5]; omega⟩, fun i hl => ?_, by rw [c8, d8], by rw [c8]; cases x.snd; exact Or.inl rfl; exact Or.inr rfl⟩
    have := i0.2.1
    have := i0.2.2.1
    have := e3 i
    rw [c6 i (by omega), d6 i (by omega)]
    exact ⟨rfl, by omega⟩
  · obtain ⟨x, hxx⟩ := ex_get (l := S.ass) hj
    rw [(a2 j x hxx).2.2.2.2.2.2.1]
    cases x.inc <;> decide
  · obtain ⟨s, hs⟩ := ex_get (l := S.sms) hk
    obtain ⟨d1, _, _, _, d5⟩ := t2 k s hs
    have k3 : s.kind = 3 := by omega
    have hl := asn_lt hi k s hs (by omega)
    obtain ⟨x, hxx⟩ := ex_get (l := S.ass) hl
    refine ⟨s.asn, hl, by rw [d5, if_pos (by omega)], ?_⟩
    rw [(u2 _ x hxx).2.2.2.2.2.2.1]
    cases x.inc <;> decide
  · rw [cnt_congr (p := fun j => !decide (g.2.2.1 23 j = 0)) (q := fun j => incK S.ass j) (fun j hj => by
      obtain ⟨x, hxx⟩ := ex_get (l := S.ass) hj
      show (!decide (g.2.2.1 23 j = 0)) = incK S.ass j
      rw [(a2 j x hxx).2.2.2.2.2.2.1, b01_z]
      unfold incK; rw [hxx]; rfl), hes]
    refine (cnt_congr (fun k hk => ?_)).symm
    show (decide (g.2.2.1 58 k = 7) && !decide (g.2.2.1 77 (g.2.2.1 64 k).toNat = 0)) = (decide (kndK S.sms k = 3) && incK S.ass (asnK S.sms k))
    obtain ⟨s, hs⟩ := ex_get (l := S.sms) hk
    obtain ⟨d1, _, _, _, d5⟩ := t2 k s hs
    have ek : kndK S.sms k = s.kind := by unfold kndK; rw [hs]; rfl
    have ea : asnK S.sms k = s.asn := by unfold asnK; rw [hs]; rfl
    rw [ek, ea]
    by_cases q : s.kind = 3
    · have hl := asn_lt hi k s hs (by omega)
      obtain ⟨x, hxx⟩ := ex_get (l := S.ass) hl
      have : incK S.ass s.asn = x.inc := by unfold incK; rw [hxx]; rfl
      rw [decide_eq_true q, decide_eq_true (show g.2.2.1 58 k = 7 by omega), Bool.true_and, Bool.true_and, d5, if_pos (by omega), Int.toNat_natCast, (u2 _ x hxx).2.2.2.2.2.2.1, b01_z, this]
    · rw [decide_eq_false q, decide_eq_false (show ¬ g.2.2.1 58 k = 7 by omega), Bool.false_and, Bool.false_and]
  · obtain ⟨x, hxx⟩ := ex_get (l := S.ass) hj
    have c1 := (a2 j x hxx).1
    have e : k = x.stm := by omega
    subst e
    obtain ⟨j1, j2, j3, s, hs, hk2, _⟩ := i9 j x hxx
    obtain ⟨s', hs', v1, v2⟩ := (u2 j x hxx).2.1
    rw [hs] at hs'
    injection hs' with hs'
    subst hs'
    have e14 := ((s2 _ s hs).2.2.2.2.2 hk2).1
    rw [e14]
    refine ⟨by rw [v1, hsOf_cnt], fun i hl hb => ?_⟩
    exact v2 _ i (hs_at s.mand i hb _ hl)
theorem cp_iff {g : G2} {j u : Nat} {p : Nat × Nat} (h : g.2.2.1 19 (40 * j + u) = 60 * (p.1 : Int) + p.2) (h2 : p.2 < 60) {x y : Nat} (hy : y < 60) : CP g j u x y ↔ p = (x, y) := by
  unfold CP
  rw [h]
  constructor
  · intro z; exact Prod.ext (show p.1 = x by omega) (show p.2 = y by omega)
  · intro z; subst z; rfl
theorem nrm_or (p : Nat × Nat) : nrm p = p ∨ nrm p = (p.2, p.1) := by unfold nrm; split; exact Or.inl rfl; exact Or.inr rfl
theorem ra_6 {S : RSt} {g : G2} {n : Nat} (hC : CK S g) (hM : MKm S g) (hi : Iv S) (hx : Ex S n) : R6 g S.nms.length S.ass.length := by
  obtain ⟨_, ⟨s1, s2⟩, ⟨a1, a2⟩, _⟩ := hC
  obtain ⟨_, _, ⟨u1, u2⟩⟩ := hM
  have n60 := hi.1.1
  intro j hj
  obtain ⟨x, hxx⟩ := ex_get (l := S.ass) hj
  obtain ⟨c1, c2, c3, _⟩ := a2 j x hxx
  have d3 := (u2 j x hxx).2.2.1
  obtain ⟨j1, j2, j3, s, hs, hk2, hasn, _⟩ := hi.2.2.2.2.2.2.2.2.2 j x hxx
  have hb := ((hi.2.2.1 _ s hs).2.2.2.2 hk2).2.2.2.2.2
  have hpe : prsS S s.asn = x.prs := by unfold prsS; rw [hasn, hxx]; rfl
  rw [hpe] at hb
  have hlt : ∀ p ∈ x.prs, p.1 < p.2 ∧ p.2 < S.nms.length := fun p hp => ⟨(hb p hp).1, (hb p hp).2.1⟩
  have hp := pr_len d3 (hx.1.2.2 j x hxx).1
  obtain ⟨L, l1, l2, l3, l4⟩ := d3
  have hLl : L.length = x.prs.length := by rw [l1] at hp; omega
  have hL : ∀ p ∈ L, p.1 < S.nms.length ∧ p.2 < S.nms.length := fun p hpL => by
    have z := hlt _ ((l4 _).mp (List.mem_map_of_mem (f := nrm) hpL))
    rcases nrm_or p with e | e <;> rw [e] at z
    · omega
    · have z' : p.2 < p.1 ∧ p.1 < S.nms.length := z
      omega
  refine ⟨x.prs.length, j1, c2, hp, fun u hu => ?_, fun u hu => ?_, fun a b ha hb' => ?_⟩
  · obtain ⟨p, hpu⟩ := ex_get (l := x.prs) hu
    have z := hlt p (List.mem_of_getElem? hpu)
    exact ⟨p.1, p.2, by omega, by omega, c3 u p hpu⟩
  · obtain ⟨p, hpu⟩ := ex_get (l := L) (k := u) (by omega)
    have z := hL p (List.mem_of_getElem? hpu)
    exact ⟨p.1, p.2, z.1, z.2, l2 u p hpu⟩
  · have hc : ∀ a b : Nat, a < S.nms.length → b < S.nms.length → ((∃ u, u < x.prs.length ∧ CP g j u a b) ↔ (a, b) ∈ x.prs) := fun a b ha hb' => by
      constructor
      · rintro ⟨u, hu, hcp⟩
        obtain ⟨p, hpu⟩ := ex_get (l := x.prs) hu
        have z := hlt p (List.mem_of_getElem? hpu)
        have := (cp_iff (c3 u p hpu) (by omega) (by omega)).mp hcp
        rw [← this]
        exact List.mem_of_getElem? hpu
      · intro hm
        obtain ⟨u, hu⟩ := List.mem_iff_getElem?.mp hm
        have z := hlt _ hm
        exact ⟨u, lt_get hu, (cp_iff (c3 u _ hu) (show b < 60 by omega) (by omega)).mpr rfl⟩
    have hm : ∀ a b : Nat, ((∃ u, u < x.prs.length ∧ MP g j u a b) ↔ (a, b) ∈ L) := fun a b => by
      constructor
      · rintro ⟨u, hu, q1, q2⟩
        obtain ⟨p, hpu⟩ := ex_get (l := L) (k := u) (by omega)
        have z := l2 u p hpu
        have e : p = (a, b) := Prod.ext (show p.1 = a by omega) (show p.2 = b by omega)
        rw [← e]
        exact List.mem_of_getElem? hpu
      · intro hm
        obtain ⟨u, hu⟩ := List.mem_iff_getElem?.mp hm
        have := lt_get hu
        exact ⟨u, by omega, l2 u _ hu⟩
    have hor : ∀ (P Q : Nat → Prop), (∃ u, u < x.prs.length ∧ (P u ∨ Q u)) ↔ ((∃ u, u < x.prs.length ∧ P u) ∨ ∃ u, u < x.prs.length ∧ Q u) := fun P Q => by
      constructor
      · rintro ⟨u, h1, h2 | h2⟩
        · exact Or.inl ⟨u, h1, h2⟩
        · exact Or.inr ⟨u, h1, h2⟩
      · rintro (⟨u, h1, h2⟩ | ⟨u, h1, h2⟩)
        · exact ⟨u, h1, Or.inl h2⟩
        · exact ⟨u, h1, Or.inr h2⟩
    rw [hor, hor, hc a b ha hb', hc b a hb' ha, hm, hm]
    have fwd : ∀ a b : Nat, (a, b) ∈ x.prs → (a, b) ∈ L ∨ (b, a) ∈ L := fun a b hab => by
      obtain ⟨p, p1, p2⟩ := List.mem_map.mp ((l4 _).mpr hab)
      rcases nrm_or p with e | e
      · rw [e] at p2; subst p2; exact Or.inl p1
      · rw [e] at p2
        injection p2 with e1 e2
        have : p = (b, a) := Prod.ext e2 e1
        rw [this] at p1; exact Or.inr p1
    have bwd : ∀ a b : Nat, (a, b) ∈ L → (a, b) ∈ x.prs ∨ (b, a) ∈ x.prs := fun a b hab => by
      have z := (l4 _).mp (List.mem_map_of_mem (f := nrm) hab)
      rcases nrm_or (a, b) with e | e <;> rw [e] at z
      · exact Or.inl z
      · exact Or.inr z
    constructor
    · rintro (z | z)
      · exact fwd a b z
      · exact (fwd b a z).symm
    · rintro (z | z)
      · exact bwd a b z
      · exact (bwd b a z).symm
theorem CK.low {S : RSt} {g g' : G2} (h : CK S g) (k : KK cM g g') : CK S g' := by
  have e : ∀ r, decide (r < 49) = true → g'.1 r = g.1 r ∧ g'.2.1 r = g.2.1 r ∧ g'.2.2.1 r = g.2.2.1 r ∧ g'.2.2.2 r = g.2.2.2 r := fun r hr => k r (show r < 49 from of_decide_eq_true hr)
  unfold CK CN CS CA AsAt rI rJ at *
  rw [(e 3 rfl).1, (e 3 rfl).2.1, (e 4 rfl).2.2.2, (e 5 rfl).2.2.1, (e 6 rfl).2.2.1, (e 10 rfl).1, (e 8 rfl).2.2.2, (e 9 rfl).2.2.1, (e 12 rfl).2.2.1, (e 11 rfl).2.2.1, (e 13 rfl).2.2.2, (e 14 rfl).2.2.2, (e 15 rfl).2.2.1, (e 16 rfl).1, (e 17 rfl).2.2.1, (e 18 rfl).2.2.1, (e 19 rfl).2.2.1, (e 20 rfl).2.2.1, (e 21 rfl).2.2.1, (e 22 rfl).2.2.1, (e 23 rfl).2.2.1, (e 24 rfl).2.2.1, (e 38 rfl).1]
  exact h
theorem cut_congr {t t' : Nat → Int} {len : Nat} (h : ∀ i, i < len → t i = t' i) : ∀ (ws : List (List Int)) (e : Nat), Cut t len e ws → Cut t' len e ws := by
  intro ws
  induction ws with
  | nil => exact fun e ⟨h1, h2⟩ => ⟨h1, fun i hi hl => (h i hl).symm.trans (h2 i hi hl)⟩
  | cons l ws ih =>
    rintro e ⟨b, b1, b2, b3, b4, b5, b6, b7⟩
    refine ⟨b, b1, fun i hi hl => (h i (by omega)).symm.trans (b2 i hi hl), b3, b4, fun i c hc => ?_, ?_, ih _ b7⟩
    · have := lt_get hc
      exact ⟨(h _ (by omega)).symm.trans (b5 i c hc).1, (b5 i c hc).2⟩
    · by_cases q : b + l.length = len
      · exact Or.inl q
      · rcases b6 with z | z
        · exact Or.inl z
        · exact Or.inr ((h _ (by omega)).symm.trans z)
/-- the two readings answer alike, and leave what the other calls need -/
theorem read_law : ReadLaw := by
  intro g hg
  obtain ⟨len, _, _, _, ⟨t1, t2, t3, t4⟩, _, h38⟩ := hg
  obtain ⟨ws, hc, hw⟩ := cut_ex (g.2.2.1 2) len len 0 (by omega)
  have hw' : ws.length ≤ 801 := by omega
  obtain ⟨g1, b1, b2, b3⟩ := class_read g len ⟨t1, t2, fun i hi => (t4 i hi).2⟩ h38 ws hc hw'
  have kx1 := kx_f_L_read_1 g _ _ b1
  have hT1 : TXM g1 len := ⟨t1, kx1.1.2.1.trans t3, fun i hi => by rw [kx1.2.2, ← (t4 i hi).1]; exact (t4 i hi).2⟩
  have hc1 : Cut (g1.2.2.1 50) len 0 ws := cut_congr (fun i hi => by rw [kx1.2.2]; exact (t4 i hi).1) ws 0 hc
  obtain ⟨g2, d1, d2, d3, d4⟩ := model_read g1 len hT1 ws hc1 hw'
  have kx2 := kx_f_M_read_50 g1 _ _ d1
  have km := k_f_M_read_50 g1 _ _ d1
  obtain ⟨v1, v2, v3, v4⟩ := run_inv (W := ws.length) (b := (toks 0 false ws).2) (toks 0 false ws).1 RSt.z 0 iv_z.1 iv_z.2 ex_z (fun p hp => by have := toks_lt ws 0 false p hp; omega)
  have hl := (toks_len ws 0 false).1
  generalize runS ws.length (toks 0 false ws).2 RSt.z (toks 0 false ws).1 = r at *
  have hck := b2.low km
  have e05 : rI g2 0 5 = r.2.1 := (congrFun (km 0 (show 0 < 49 by decide)).1 5).trans b3
  have ha := v1.1.2.2.1
  have ha2 := v1.1.2.1
  refine ⟨rAns r, g1, g2, ?_, b1, d1, len, r.2.2.nms.length, r.2.2.sms.length, r.2.2.ass.length, ⟨t1, (kx2.1.1.trans kx1.1.1).trans t2, (kx2.1.2.1.trans kx1.1.2.1).trans t3, fun i hi => by rw [kx2.2.1, kx1.2.1, kx2.2.2, kx1.2.2]; exact t4 i hi⟩, ⟨⟨by rw [e05, d3], by rw [e05]; omega⟩, ?_⟩, (kx2.1.2.2.trans kx1.1.2.2).trans h38⟩
  · unfold rAns
    split
    · omega
    · omega
  · obtain ⟨q1, q2, q3, q4⟩ := ra_1 hck d2 v1 v2
    obtain ⟨q5, q6, q7⟩ := ra_2 hck d2 v1 v2 (by omega)
    exact ⟨q1, q2, q3, q4, q5, q6, ra_6 hck d2 v1 v2, q7⟩
