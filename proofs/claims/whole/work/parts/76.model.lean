/-! ===== what the model keeps of a reading ===== -/
def MN (S : RSt) (g : G2) : Prop := rI g 49 8 = (S.nms.length : Int) ∧ ∀ (i : Nat) (x : RNm), S.nms[i]? = some x → g.2.2.2 53 i = x.code ∧ g.2.2.1 54 i = (((x.role + 1) % 3 : Nat) : Int) ∧ g.2.2.1 57 i = (if x.role = 2 then (x.lst : Int) else -1)
def MSt (S : RSt) (g : G2) : Prop := rI g 49 15 = (S.sms.length : Int) ∧ ∀ (k : Nat) (s : RSm), S.sms[k]? = some s → g.2.2.1 58 k = (s.kind : Int) + 4 ∧ (∃ (d : Nat) (x : RNm), S.nms[d]? = some x ∧ g.2.2.1 59 k = (d : Int) ∧ x.code = s.lab) ∧ g.2.2.1 61 k = (s.row.length : Int) ∧ RowAt (g.2.2.1 60) (24 * k) s.row ∧ g.2.2.1 64 k = (if 2 ≤ s.kind then (s.asn : Int) else -1)
def NdAt (g : G2) (j : Nat) (l : List Nat) : Prop := g.2.2.1 70 j = (l.length : Int) ∧ ∀ (i h : Nat), l[i]? = some h → g.2.2.1 69 (40 * j + i) = (h : Int)
def PrAt (g : G2) (j : Nat) (prs : List (Nat × Nat)) : Prop := ∃ L : List (Nat × Nat), g.2.2.1 73 j = (L.length : Int) ∧ (∀ (u : Nat) (p : Nat × Nat), L[u]? = some p → g.2.2.1 71 (40 * j + u) = (p.1 : Int) ∧ g.2.2.1 72 (40 * j + u) = (p.2 : Int)) ∧ (L.map nrm).Nodup ∧ ∀ p, p ∈ L.map nrm ↔ p ∈ prs
def MAs (S : RSt) (g : G2) (j : Nat) (x : RAs) : Prop := g.2.2.1 68 j = (x.stm : Int) ∧ (∃ s, S.sms[x.stm]? = some s ∧ NdAt g j (hsOf x.stm s.mand)) ∧ PrAt g j x.prs ∧ g.2.2.1 74 j = (x.stp : Int) ∧ g.2.2.1 75 j = (x.hgt : Int) ∧ (∀ i : Nat, i < 40 → g.2.2.1 76 (40 * j + i) = (x.use i : Int)) ∧ g.2.2.1 77 j = b01 x.inc ∧ g.2.2.1 78 j = b01 x.snd
def MA (S : RSt) (g : G2) : Prop := rI g 49 27 = (S.ass.length : Int) ∧ ∀ (j : Nat) (x : RAs), S.ass[j]? = some x → MAs S g j x
def MV (S : RSt) (g : G2) : Prop := ∀ v : Nat, v < S.nms.length → g.2.2.1 55 v = b01 (tb S.vars v) ∧ (tb S.vars v = true → 0 ≤ g.2.2.1 56 v ∧ g.2.2.1 56 v ≤ (S.out.length : Int)) ∧ ∀ (t : Nat) (o : Int64 × Int64 × Int64 × Nat), S.out[t]? = some o → (tb o.1 v = true ↔ tb S.vars v = true ∧ g.2.2.1 56 v ≤ (t : Int))
def MH (S : RSt) (g : G2) : Prop := ∀ k : Nat, k < S.sms.length → g.2.2.1 62 k = b01 (tb S.hyps k) ∧ (tb S.hyps k = true → 0 ≤ g.2.2.1 63 k ∧ g.2.2.1 63 k ≤ (S.out.length : Int)) ∧ ∀ (t : Nat) (o : Int64 × Int64 × Int64 × Nat), S.out[t]? = some o → (tb o.2.2.1 k = true ↔ tb S.hyps k = true ∧ g.2.2.1 63 k ≤ (t : Int))
def MPr (S : RSt) (g : G2) : Prop := rI g 49 23 = (S.prs.length : Int) ∧ ∃ P : List (Nat × Nat × Nat), P.length = S.prs.length ∧ (∀ (i : Nat) (p : Nat × Nat × Nat), P[i]? = some p → g.2.2.1 65 i = (p.1 : Int) ∧ g.2.2.1 66 i = (p.2.1 : Int) ∧ g.2.2.1 67 i = (p.2.2 : Int) ∧ p.2.2 ≤ S.out.length) ∧ (∀ x y, (x, y) ∈ S.prs ↔ ∃ z, (x, y, z) ∈ P) ∧ ∀ (t : Nat) (o : Int64 × Int64 × Int64 × Nat), S.out[t]? = some o → (∀ (i : Nat) (p : Nat × Nat × Nat), P[i]? = some p → (i < o.2.2.2 ↔ p.2.2 ≤ t)) ∧ ∀ x y, (x, y) ∈ S.prs.take o.2.2.2 ↔ ∃ z, (x, y, z) ∈ P.take o.2.2.2
def MX (S : RSt) (g : G2) : Prop := rI g 49 14 = (S.out.length : Int) ∧ MV S g ∧ MH S g ∧ MPr S g
def MD (S : RSt) (g : G2) : Prop := S.stage = 3 → ∀ (i v : Nat), S.tl[i]? = some v → g.2.2.1 81 i = (v : Int)
def MC (S : RSt) (g : G2) : Prop := (S.stage = 6 ∨ S.stage = 7 ∨ 9 ≤ S.stage) → rI g 49 40 = (S.crow.length : Int) ∧ RowAt (g.2.2.1 79) 0 S.crow
def StkM (f l : Nat → Int) (s : List (List Nat × Int64)) : Prop := ∀ (r : Nat) (e : List Nat × Int64), s[r]? = some e → RowAt f (24 * r) e.1 ∧ l r = (e.1.length : Int)
/-- the assertion in the making, and the stack -/
def MPf0 (S : RSt) (g : G2) : Prop := (NdAt g S.ass.length (hsOf S.sms.length S.cmand) ∧ PrAt g S.ass.length S.ca.prs) ∧ (g.2.2.1 74 S.ass.length = (S.ca.stp : Int) ∧ g.2.2.1 75 S.ass.length = (S.ca.hgt : Int) ∧ ∀ i : Nat, i < 40 → g.2.2.1 76 (40 * S.ass.length + i) = (S.ca.use i : Int)) ∧ rI g 49 45 = (S.stk.length : Int) ∧ StkM (g.2.2.1 82) (g.2.2.1 83) S.stk ∧ rI g 49 51 = b01 S.gap
def MPf (S : RSt) (g : G2) : Prop := 10 ≤ S.stage → MPf0 S g ∧ (S.stage < 12 → rI g 49 48 = 0)
def ML (S : RSt) (g : G2) : Prop := 12 ≤ S.stage → rI g 49 53 = (S.lstd : Int) ∧ (∀ (i k : Nat), (S.refs.drop (hsOf S.sms.length S.cmand).length)[i]? = some k → g.2.2.1 88 i = (k : Int)) ∧ rI g 49 48 = (S.tc : Int) ∧ StkM (g.2.2.1 84) (g.2.2.1 85) S.tags ∧ (S.stage = 13 → rI g 49 54 = (if S.ins = true then (S.num : Int) else 0) ∧ rI g 49 55 = b01 S.ins ∧ rI g 49 56 = b01 S.beh)
def MKm (S : RSt) (g : G2) : Prop := MN S g ∧ MSt S g ∧ MA S g
def MRep (S : RSt) (g : G2) : Prop := MKm S g ∧ MX S g ∧ MD S g ∧ MC S g ∧ MPf S g ∧ ML S g
theorem MKm.sf {S : RSt} {g g' : G2} (h : MKm S g) (k : SF g g') : MKm S g' := by
  obtain ⟨k1, k2, k3⟩ := k
  unfold MKm MN MSt MA MAs NdAt PrAt rI at *
  rw [k1, k3 8 (by decide) (by decide) (by decide), k3 15 (by decide) (by decide) (by decide), k3 27 (by decide) (by decide) (by decide)]
  exact h
theorem MRep.sf {S : RSt} {g g' : G2} (h : MRep S g) (k : SF g g') : MRep S g' := by
  refine ⟨h.1.sf k, ?_⟩
  have h2 := h.2
  obtain ⟨k1, k2, k3⟩ := k
  unfold MX MV MH MPr MD MC MPf MPf0 NdAt PrAt ML rI at *
  rw [k1, k3 14 (by decide) (by decide) (by decide), k3 23 (by decide) (by decide) (by decide), k3 40 (by decide) (by decide) (by decide), k3 45 (by decide) (by decide) (by decide), k3 51 (by decide) (by decide) (by decide), k3 48 (by decide) (by decide) (by decide), k3 53 (by decide) (by decide) (by decide), k3 54 (by decide) (by decide) (by decide), k3 55 (by decide) (by decide) (by decide), k3 56 (by decide) (by decide) (by decide)]
  exact h2
/-! a word that is too long or no keyword -/
theorem key0 (S : RSt) : keyS S 0 = .error (-3) := by
  unfold keyS unlabelledS endNamesS takeKindS endSymbolsS
  have e : (0 : Int) ≠ (if S.ckind = 3 then 61 else 46) := by split <;> decide
  rw [if_neg (show ¬ (0 : Int) = 99 by decide), if_neg (show ¬ (0 : Int) = 100 by decide), if_neg (show ¬ (0 : Int) = 118 by decide), if_neg (show ¬ (0 : Int) = 123 by decide), if_neg (show ¬ (0 : Int) = 125 by decide), if_pos (Or.inl (by decide)), if_neg (show ¬ (0 : Int) = 97 by decide), if_neg (show ¬ (0 : Int) = 101 by decide), if_neg (show ¬ (0 : Int) = 102 by decide), if_neg (show ¬ (0 : Int) = 112 by decide), if_neg (show ¬ (0 : Int) = 46 by decide), if_pos e]
  split
  · rfl
  · split
    · rfl
    · split
      · rfl
      · split
        · rfl
        · split
          · rfl
          · split
            · rw [if_neg (show ¬ (0 : Int) = 46 by decide)]
            · rfl
theorem kw_long {l : List Int} (h : l.length ≠ 2) : kwOf l = 0 := by
  match l, h with
  | [], _ => rfl
  | [x], _ => rfl
  | x :: y :: z :: l, _ => rfl
theorem word_long {S : RSt} {l : List Int} (h : 8 < l.length) : wordS S l = .error (-3) := by
  unfold wordS
  by_cases q : (36 : Int) ∈ l
  · rw [if_pos q, kw_long (by omega)]; exact key0 S
  · rw [if_neg q, if_pos h]
/-- a reading that has stopped -/
def MFin (r : Int × Int × RSt) (g : G2) : Prop := rI g 49 6 = r.1 ∧ -12 < r.1 ∧ r.1 < 0 ∧ rI g 49 7 = r.2.1 ∧ MKm r.2.2 g
/-- a reading that goes on -/
def MGo (ws : List (List Int)) (b : Bool) (S : RSt) (ts : List (Nat × List Int)) (g : G2) : Prop := WM g ws ∧ MRep S g ∧ Iv S ∧ Bh S ∧ At g ws ts b ∧ rI g 49 6 = 0 ∧ rI g 49 7 = -1
noncomputable abbrev rn (ws : List (List Int)) (b : Bool) (S : RSt) (ts : List (Nat × List Int)) : Int × Int × RSt := runS ws.length b S ts
theorem run_nil {ws : List (List Int)} {b : Bool} {S : RSt} (h : b = true ∨ S.stage ≠ 0) : rn ws b S [] = (-2, (ws.length : Int), S) := by
  show (if _ then _ else _) = _
  rw [if_pos (by rcases h with h | h; exact Or.inl h; exact Or.inr (Or.inl h))]
theorem run_err {ws : List (List Int)} {b : Bool} {S : RSt} {j : Nat} {l : List Int} {ts : List (Nat × List Int)} {f : Int} (h : wordS S l = .error f) : rn ws b S ((j, l) :: ts) = (f, (j : Int), S) := by
  show (match wordS S l with | .error f => _ | .ok S' => _) = _
  rw [h]
theorem run_ok {ws : List (List Int)} {b : Bool} {S S' : RSt} {j : Nat} {l : List Int} {ts : List (Nat × List Int)} (h : wordS S l = .ok S') : rn ws b S ((j, l) :: ts) = rn ws b S' ts := by
  show (match wordS S l with | .error f => _ | .ok S' => _) = _
  rw [h]
/-- the model fails at a word, as our words do -/
theorem m_bad {ws : List (List Int)} {b : Bool} {S : RSt} {j : Nat} {l : List Int} {ts : List (Nat × List Int)} {f : Int} {g : G2} (h : wordS S l = .error f) (hf : -12 < f ∧ f < 0) (hK : MKm S g) (h6 : rI g 49 6 = 0) (h5 : rI g 49 5 = (j : Int)) : ∃ g', f_M_fail_50 f (rI g 49 5) g = some g' ∧ MFin (rn ws b S ((j, l) :: ts)) g' ∧ SF g g' := by
  refine ⟨_, m_fail0 h6 f _, ?_, (SF.i (Or.inr (Or.inl rfl))).tr (SF.i (Or.inr (Or.inr rfl)))⟩
  rw [run_err h]
  exact ⟨rfl, hf.1, hf.2, h5, hK.sf ((SF.i (Or.inr (Or.inl rfl))).tr (SF.i (Or.inr (Or.inr rfl))))⟩
/-- need: a fault, or a word -/
theorem m_need {ws : List (List Int)} {b : Bool} {S : RSt} {ts : List (Nat × List Int)} {g : G2} (h : MGo ws b S ts g) (hs : S.stage ≠ 0) :
    (∃ g', f_M_need_50 g = some (-1, g') ∧ MFin (rn ws b S ts) g' ∧ SF g g') ∨
    (∃ (j : Nat) (l : List Int) (ts' : List (Nat × List Int)) (g' : G2), ts = (j, l) :: ts' ∧ f_M_need_50 g = some (whOf l, g') ∧ WdOk l ∧ l.length ≤ 8 ∧ ws[j]? = some l ∧ SF g g' ∧ WM g' ws ∧ MRep S g' ∧ rI g' 49 6 = 0 ∧ rI g' 49 7 = -1 ∧ rI g' 49 5 = (j : Int) ∧ toks (j + 1) false (ws.drop (j + 1)) = (ts', b)) := by
  obtain ⟨hM, hR, hi, hb, hA, h6, h7⟩ := h
  have hc := m_come hM hA h6
  unfold f_M_need_50
  cases ts with
  | nil =>
    obtain ⟨g1, a1, a2, a3⟩ := hc
    left
    rw [bd_some a1, if_pos (by decide), if_pos rfl, run_nil (Or.inr hs)]
    have h4 : rI g1 49 4 = (ws.length : Int) := (hM.sf a2).1
    by_cases q : b = true
    · rw [if_pos q] at a3
      rw [m_fail1 (by rw [a3.1]; decide) (by rw [a3.1]; decide)]
      exact ⟨g1, rfl, ⟨a3.1, (show (-12 : Int) < -2 by decide), (show (-2 : Int) < 0 by decide), a3.2, (hR.1).sf a2⟩, a2⟩
    · rw [if_neg q] at a3
      rw [m_fail0 a3.1]
      have s2 : SF g1 (gI (gI g1 49 6 (-2)) 49 7 (rI g1 49 4)) := (SF.i (Or.inr (Or.inl rfl))).tr (SF.i (Or.inr (Or.inr rfl)))
      exact ⟨_, rfl, ⟨rfl, (show (-12 : Int) < -2 by decide), (show (-2 : Int) < 0 by decide), h4, (hR.1).sf (a2.tr s2)⟩, a2.tr s2⟩
  | cons t ts' =>
    obtain ⟨j, l⟩ := t
    obtain ⟨c1, c2, c3⟩ := hc
    by_cases q : 8 < l.length
    · rw [if_pos q] at c3
      obtain ⟨g1, a1, a2, a3, a4⟩ := c3
      left
      rw [bd_some a1, if_pos (by decide), if_pos rfl, m_fail1 (by rw [a3]; decide) (by rw [a3]; decide), run_err (word_long q)]
      exact ⟨g1, rfl, ⟨a3, (show (-12 : Int) < -3 by decide), (show (-3 : Int) < 0 by decide), a4, (hR.1).sf a2⟩, a2⟩
    · rw [if_neg q] at c3
      obtain ⟨g1, a1, a2, a3, a4, a5, a6⟩ := c3
      right
      have hw := m_what (hM.sf a2) c1
      refine ⟨j, l, ts', g1, rfl, ?_, c2, by omega, c1, a2, hM.sf a2, hR.sf a2, a3, a4.trans h7, a5, a6⟩
      rw [bd_some a1, if_pos (by decide), if_neg (by decide), a5, bd_some hw]
theorem m_find' {S : RSt} {g : G2} (h : MN S g) (hn : S.nms.length ≤ 60) (c : Int64) : f_M_find_50 c g = some (fnd S c, g) := by
  obtain ⟨h1, h2⟩ := h
  rw [e_M_find g c S.nms.length h1 hn]
  unfold fnd
  rw [fndN_congr (f := g.2.2.2 53) (f' := cdf S) S.nms.length 0 (fun u _ hu => by
    obtain ⟨y, hy⟩ := ex_get (l := S.nms) (k := u) (by omega)
    rw [(h2 u y hy).1]
    unfold cdf
    rw [hy]; rfl)]
theorem m_findWord {S : RSt} {g : G2} {ws : List (List Int)} (h : MN S g) (hn : S.nms.length ≤ 60) (hM : WM g ws) {j : Nat} {l : List Int} (hj : ws[j]? = some l) (h5 : rI g 49 5 = (j : Int)) : f_M_findWord_50 g = some (fnd S (cdOf l), g) := by
  unfold f_M_findWord_50
  rw [h5, bd_some (m_code hM hj), bd_some (m_find' h hn _)]
theorem wh0 {l : List Int} : whOf l = 0 ↔ ¬ (36 : Int) ∈ l := by
  unfold whOf
  by_cases q : (36 : Int) ∈ l
  · rw [if_pos q]
    constructor
    · intro h; exfalso; revert h; repeat' split
      all_goals decide
    · intro h; exact absurd q h
  · rw [if_neg q]; simp [q]
theorem wh_ir (l : List Int) : 0 ≤ whOf l ∧ whOf l ≤ 12 := by
  unfold whOf
  repeat' split
  all_goals decide
theorem wh9 {l : List Int} : whOf l = 9 ↔ (36 : Int) ∈ l ∧ kwOf l = 46 := by
  unfold whOf
  by_cases q : (36 : Int) ∈ l
  · rw [if_pos q]
    by_cases q2 : kwOf l = 46
    · rw [if_pos q2]; simp [q, q2]
    · rw [if_neg q2]
      constructor
      · intro h; exfalso; revert h; repeat' split
        all_goals decide
      · intro h; exact absurd h.2 q2
  · rw [if_neg q]
    constructor
    · intro h; exact absurd h (by decide)
    · intro h; exact absurd h.1 q
/-- a word is a name, or a keyword -/
theorem word_name {S : RSt} {l : List Int} (h0 : whOf l = 0) (hl : l.length ≤ 8) : wordS S l = nameS S (cdOf l) l := by
  unfold wordS
  rw [if_neg (wh0.mp h0), if_neg (by omega)]
theorem word_key {S : RSt} {l : List Int} (h0 : whOf l ≠ 0) : wordS S l = keyS S (kwOf l) := by
  unfold wordS
  have : (36 : Int) ∈ l := Classical.byContradiction (fun z => h0 (wh0.mpr z))
  rw [if_pos this]
