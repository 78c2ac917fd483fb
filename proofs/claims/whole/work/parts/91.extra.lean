/-! ===== more that holds of every state of a reading ===== -/
def rolK (l : List RNm) (i : Nat) : Nat := ((l[i]?).map RNm.role).getD 3
def kndK (l : List RSm) (k : Nat) : Nat := ((l[k]?).map RSm.kind).getD 4
def asnK (l : List RSm) (k : Nat) : Nat := ((l[k]?).map RSm.asn).getD 0
def incK (l : List RAs) (j : Nat) : Bool := ((l[j]?).map RAs.inc).getD false
/-- names: each code once, the constants' number, the variables' mask -/
def En (l : List RNm) (c : Nat) (v : Int64) : Prop := (∀ (i j : Nat) (x y : RNm), l[i]? = some x → l[j]? = some y → x.code = y.code → i = j) ∧ c = cnt (fun i => decide (rolK l i = 0)) l.length ∧ ∀ i, i < 64 → tb v i = (decide (i < l.length) && decide (rolK l i = 1))
/-- unfinished proofs, counted both ways -/
def Es (s : List RSm) (a : List RAs) : Prop := cnt (fun j => incK a j) a.length = cnt (fun k => decide (kndK s k = 3) && incK a (asnK s k)) s.length
def Ea (a : List RAs) (n : Nat) : Prop := ∀ (j : Nat) (x : RAs), a[j]? = some x → x.prs.Nodup ∧ x.stp ≤ n ∧ ∀ i, x.use i ≤ n
def Ek (K : RK) (n : Nat) : Prop := En K.1 K.2.1 K.2.2.1 ∧ Es K.2.2.2.1 K.2.2.2.2 ∧ Ea K.2.2.2.2 n
def Ec (S : RSt) (n : Nat) : Prop := 10 ≤ S.stage → S.ca.prs.Nodup ∧ UB S n
def Ex (S : RSt) (n : Nat) : Prop := Ek S.1 n ∧ Ec S n
theorem Ea.mono {a : List RAs} {n m : Nat} (h : Ea a n) (hm : n ≤ m) : Ea a m := fun j x hx => ⟨(h j x hx).1, Nat.le_trans (h j x hx).2.1 hm, fun i => Nat.le_trans ((h j x hx).2.2 i) hm⟩
theorem Ek.mono {K : RK} {n m : Nat} (h : Ek K n) (hm : n ≤ m) : Ek K m := ⟨h.1, h.2.1, h.2.2.mono hm⟩
theorem app_l {α : Type} {l : List α} {x : α} {i : Nat} (h : i < l.length) : (l ++ [x])[i]? = l[i]? := List.getElem?_append_left h
theorem app_r {α : Type} (l : List α) (x : α) : (l ++ [x])[l.length]? = some x := by simp
theorem app_len {α : Type} (l : List α) (x : α) : (l ++ [x]).length = l.length + 1 := by simp
theorem en_app {l : List RNm} {c : Nat} {v : Int64} (h : En l c v) (x : RNm) (hx : ∀ (i : Nat) (y : RNm), l[i]? = some y → y.code ≠ x.code) (c' : Nat) (v' : Int64) (hc : c' = c + if x.role = 0 then 1 else 0) (hv : ∀ i, i < 64 → tb v' i = (tb v i || (decide (x.role = 1) && decide (i = l.length)))) : En (l ++ [x]) c' v' := by
  obtain ⟨h1, h2, h3⟩ := h
  have r1 : ∀ i, i < l.length → rolK (l ++ [x]) i = rolK l i := fun i hi => by unfold rolK; rw [app_l hi]
  have r2 : rolK (l ++ [x]) l.length = x.role := by unfold rolK; rw [app_r]; rfl
  refine ⟨fun i j a b ha hb e => ?_, ?_, fun i hi => ?_⟩
  · rcases ap_get ha with ⟨z1, z2⟩ | ⟨z1, z2⟩
    · rcases ap_get hb with ⟨w1, w2⟩ | ⟨w1, w2⟩
      · exact h1 i j a b z2 w2 e
      · subst w2; exact absurd e (hx i a z2)
    · rcases ap_get hb with ⟨w1, w2⟩ | ⟨w1, w2⟩
      · subst z2; exact absurd e.symm (hx j b w2)
      · omega
  · rw [app_len, cnt_succ, r2, hc, h2, cnt_congr (p := fun i => decide (rolK (l ++ [x]) i = 0)) (q := fun i => decide (rolK l i = 0)) (fun i hi => by show decide _ = decide _; rw [r1 i hi])]
    by_cases q : x.role = 0
    · rw [if_pos q, if_pos (decide_eq_true q)]
    · rw [if_neg q, if_neg (by rw [decide_eq_false q]; decide)]
  · rw [hv i hi, h3 i hi, app_len]
    by_cases q : i < l.length
    · rw [r1 i q, decide_eq_true q, decide_eq_true (show i < l.length + 1 by omega), decide_eq_false (show ¬ i = l.length by omega), Bool.and_false, Bool.or_false]
    · rw [decide_eq_false q, Bool.false_and, Bool.false_or]
      by_cases q2 : i = l.length
      · subst q2
        rw [r2, decide_eq_true (show l.length < l.length + 1 by omega), decide_eq_true (show l.length = l.length from rfl), Bool.and_true, Bool.true_and]
      · rw [decide_eq_false q2, decide_eq_false (show ¬ i < l.length + 1 by omega), Bool.and_false, Bool.false_and]
theorem es_hyp {s : List RSm} {a : List RAs} (h : Es s a) (x : RSm) (hx : x.kind ≤ 2) : Es (s ++ [x]) a := by
  unfold Es at *
  rw [app_len, cnt_succ, h, cnt_congr (p := fun k => decide (kndK (s ++ [x]) k = 3) && incK a (asnK (s ++ [x]) k)) (q := fun k => decide (kndK s k = 3) && incK a (asnK s k)) (fun i hi => by show (decide _ && _) = (decide _ && _); unfold kndK asnK; rw [app_l hi])]
  have : kndK (s ++ [x]) s.length = x.kind := by unfold kndK; rw [app_r]; rfl
  rw [this, decide_eq_false (by omega), Bool.false_and]
  rfl
theorem es_as {s : List RSm} {a : List RAs} (h : Es s a) (hs : ∀ (k : Nat) (y : RSm), s[k]? = some y → 2 ≤ y.kind → y.asn < a.length) (x : RSm) (hx : x.asn = a.length) (y : RAs) (hk : (x.kind = 2 ∧ y.inc = false) ∨ x.kind = 3) : Es (s ++ [x]) (a ++ [y]) := by
  unfold Es at *
  have i1 : ∀ j, j < a.length → incK (a ++ [y]) j = incK a j := fun j hj => by unfold incK; rw [app_l hj]
  have i2 : incK (a ++ [y]) a.length = y.inc := by unfold incK; rw [app_r]; rfl
  have k1 : kndK (s ++ [x]) s.length = x.kind := by unfold kndK; rw [app_r]; rfl
  have k2 : asnK (s ++ [x]) s.length = x.asn := by unfold asnK; rw [app_r]; rfl
  rw [app_len, app_len, cnt_succ, cnt_succ, k1, k2, hx, i2, cnt_congr (p := fun j => incK (a ++ [y]) j) (q := fun j => incK a j) i1, h, cnt_congr (p := fun k => decide (kndK (s ++ [x]) k = 3) && incK (a ++ [y]) (asnK (s ++ [x]) k)) (q := fun k => decide (kndK s k = 3) && incK a (asnK s k)) (fun k hk => by
    show (decide _ && _) = (decide _ && _)
    have e1 : kndK (s ++ [x]) k = kndK s k := by unfold kndK; rw [app_l hk]
    have e2 : asnK (s ++ [x]) k = asnK s k := by unfold asnK; rw [app_l hk]
    rw [e1, e2]
    by_cases q : kndK s k = 3
    · rw [decide_eq_true q, Bool.true_and, Bool.true_and]
      obtain ⟨z, hz⟩ := ex_get (l := s) (k := k) hk
      have ez : kndK s k = z.kind := by unfold kndK; rw [hz]; rfl
      have ea : asnK s k = z.asn := by unfold asnK; rw [hz]; rfl
      rw [ea]
      exact i1 _ (hs k z hz (by omega))
    · rw [decide_eq_false q, Bool.false_and, Bool.false_and])]
  rcases hk with ⟨q1, q2⟩ | q
  · rw [q1, q2]; rfl
  · rw [q]; rfl
theorem ea_app {a : List RAs} {n : Nat} (h : Ea a n) (x : RAs) (hx : x.prs.Nodup ∧ x.stp ≤ n ∧ ∀ i, x.use i ≤ n) : Ea (a ++ [x]) n := by
  intro j y hy
  rcases ap_get hy with ⟨z1, z2⟩ | ⟨z1, z2⟩
  · exact h j y z2
  · subst z2; exact hx
theorem ex_same {S S' : RSt} {n : Nat} (h : Ex S n) (e : S'.1 = S.1) (hs : S'.stage < 10) : Ex S' (n + 8) := ⟨by rw [e]; exact h.1.mono (by omega), fun z => absurd z (by omega)⟩
theorem ex_proof {S S' : RSt} {n : Nat} (h : Ex S n) (hs : 10 ≤ S.stage) (e : S'.1 = S.1) (ep : S'.ca.prs = S.ca.prs) (hu : UB S' (n + 8)) : Ex S' (n + 8) := ⟨by rw [e]; exact h.1.mono (by omega), fun _ => ⟨by rw [ep]; exact (h.2 hs).1, hu⟩⟩
theorem ex_declare {S S' : RSt} {n : Nat} (hk : Ek S.1 n) (hf : fnd S S.clab = -1) (hs : ∀ (k : Nat) (y : RSm), S.sms[k]? = some y → 2 ≤ y.kind → y.asn < S.ass.length) (hc : 2 ≤ S.ckind → S.ca.prs.Nodup ∧ UB S n ∧ ((S.ckind = 2 ∧ S.ca.inc = false) ∨ S.ckind = 3)) (he : declareS S = .ok S') : Ex S' (n + 8) := by
  unfold declareS at he
  injection he with he
  subst he
  refine ⟨?_, fun z => absurd z (by show ¬ 10 ≤ 0; decide)⟩
  have hN : En (S.nms ++ [(S.clab, 2, S.sms.length)]) S.cst S.nvs := by
    refine en_app hk.1 _ (fun i y hy => fnd_none hf i y hy) _ _ ?_ ?_
    · rw [if_neg (show ¬ (2 : Nat) = 0 by decide)]; rfl
    · intro i hi
      rw [show decide (RNm.role (S.clab, 2, S.sms.length) = 1) = false from rfl, Bool.false_and, Bool.or_false]
  by_cases q : S.ckind ≤ 1
  · have : Ek (S.nms ++ [(S.clab, 2, S.sms.length)], S.cst, S.nvs, S.sms ++ [(S.clab, S.ckind, S.crow, S.cvs, S.cmand, S.ass.length)], S.ass) (n + 8) := ⟨hN, es_hyp hk.2.1 _ (show S.ckind ≤ 2 by omega), hk.2.2.mono (by omega)⟩
    show Ek (S.nms ++ [(S.clab, 2, S.sms.length)], S.cst, S.nvs, S.sms ++ [(S.clab, S.ckind, S.crow, S.cvs, S.cmand, S.ass.length)], if S.ckind ≤ 1 then S.ass else S.ass ++ [S.ca]) (n + 8)
    rw [if_pos q]; exact this
  · obtain ⟨c1, c2, c3⟩ := hc (by omega)
    have : Ek (S.nms ++ [(S.clab, 2, S.sms.length)], S.cst, S.nvs, S.sms ++ [(S.clab, S.ckind, S.crow, S.cvs, S.cmand, S.ass.length)], S.ass ++ [S.ca]) (n + 8) := ⟨hN, es_as hk.2.1 hs _ rfl _ c3, (ea_app hk.2.2 _ ⟨c1, c2.1, c2.2⟩).mono (by omega)⟩
    show Ek (S.nms ++ [(S.clab, 2, S.sms.length)], S.cst, S.nvs, S.sms ++ [(S.clab, S.ckind, S.crow, S.cvs, S.cmand, S.ass.length)], if S.ckind ≤ 1 then S.ass else S.ass ++ [S.ca]) (n + 8)
    rw [if_neg q]; exact this
/-! steps keep the pairs -/
theorem put_p {S S' : RSt} {e : List Nat × Int64} (h : putS S e = .ok S') : S'.ca.prs = S.ca.prs := by
  unfold putS at h
  split at h
  · cases h
  · injection h with h; rw [← h]
theorem step_p {S S' : RSt} {k : Nat} (h : stepWithS S k = .ok S') : S'.ca.prs = S.ca.prs := by
  unfold stepWithS at h
  split at h
  · injection h with h; rw [← h]
  · split at h
    · cases h
    · split at h
      · exact put_p h
      · split at h
        · cases h
        · split at h
          · cases h
          · unfold useS at h
            split at h
            · split at h
              · cases h
              · have z := put_p h; exact z
            · cases h
theorem take_q {S S' : RSt} {c : Int64} (h : takeStepS S c = .ok S') : S'.1 = S.1 ∧ S'.ca.prs = S.ca.prs := by
  unfold takeStepS at h
  split at h
  · injection h with h; rw [← h]; exact ⟨rfl, rfl⟩
  · split at h
    · cases h
    · exact ⟨step_1 h, step_p h⟩
theorem num_p {S S' : RSt} (h : stepNumS S = .ok S') : S'.ca.prs = S.ca.prs := by
  unfold stepNumS at h
  split at h
  · exact step_p h
  · split at h
    · cases h
    · split at h
      · injection h with h; rw [← h]
      · split at h
        · exact put_p h
        · cases h
theorem tl_p {S S' : RSt} {c : Int} (h : takeLetterS S c = .ok S') : S'.ca.prs = S.ca.prs := by
  unfold takeLetterS at h
  split at h
  · split at h
    · cases h
    · injection h with h; rw [← h]; rfl
  · split at h
    · split at h
      · cases h
      · split at h
        · cases h
        · injection h with h; rw [← h]
    · split at h
      · cases h
      · injection h with h; rw [← h]
theorem letter_q {S S' : RSt} {c : Int} (h : letterS S c = .ok S') : S'.1 = S.1 ∧ S'.ca.prs = S.ca.prs := by
  unfold letterS at h
  split at h
  · cases h
  · next S1 h1 =>
    split at h
    · exact ⟨(num_1 h).trans (tl_1 h1), (num_p h).trans (tl_p h1)⟩
    · injection h with h; rw [← h]; exact ⟨tl_1 h1, tl_p h1⟩
theorem letters_q : ∀ (l : List Int) (S S' : RSt), lettersS S l = .ok S' → S'.1 = S.1 ∧ S'.ca.prs = S.ca.prs := by
  intro l
  induction l with
  | nil => intro S S' h; injection h with h; rw [← h]; exact ⟨rfl, rfl⟩
  | cons c l ih =>
    intro S S' h
    unfold lettersS at h
    split at h
    · cases h
    · next S1 h1 =>
      obtain ⟨a1, a2⟩ := ih S1 S' h
      obtain ⟨b1, b2⟩ := letter_q h1
      exact ⟨a1.trans b1, a2.trans b2⟩
