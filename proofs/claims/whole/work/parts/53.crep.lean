/-! ===== what the class keeps of a reading ===== -/
theorem ap_get {α : Type} {l : List α} {x y : α} {k : Nat} (h : (l ++ [x])[k]? = some y) : (k < l.length ∧ l[k]? = some y) ∨ (k = l.length ∧ y = x) := by
  rcases Nat.lt_or_ge k l.length with q | q
  · rw [List.getElem?_append_left q] at h; exact Or.inl ⟨q, h⟩
  · rw [List.getElem?_append_right q] at h
    rcases Nat.lt_or_ge (k - l.length) 1 with q2 | q2
    · have e : k - l.length = 0 := by omega
      rw [e] at h
      simp at h
      exact Or.inr ⟨by omega, h.symm⟩
    · rw [List.getElem?_eq_none (by simpa using q2)] at h; cases h
theorem lt_get {α : Type} {l : List α} {y : α} {k : Nat} (h : l[k]? = some y) : k < l.length := by
  rcases Nat.lt_or_ge k l.length with q | q
  · exact q
  · rw [List.getElem?_eq_none q] at h; cases h
theorem ex_get {α : Type} {l : List α} {k : Nat} (h : k < l.length) : ∃ y, l[k]? = some y := ⟨l[k], List.getElem?_eq_getElem h⟩
theorem len1 {α : Type} (l : List α) (x : α) : ((l.length : Nat) : Int) + 1 = (((l ++ [x]).length : Nat) : Int) := by rw [List.length_append]; rfl
theorem nat1 (n : Nat) : (n : Int) + 1 = ((n + 1 : Nat) : Int) := rfl
/-- a row of symbols lies at a place -/
def RowAt (f : Nat → Int) (o : Nat) (l : List Nat) : Prop := ∀ (i x : Nat), l[i]? = some x → f (o + i) = (x : Int)
theorem RowAt.nil (f : Nat → Int) (o : Nat) : RowAt f o [] := fun i x h => by simp at h
theorem RowAt.app {f : Nat → Int} {o : Nat} {l : List Nat} (h : RowAt f o l) (x : Nat) (v : Int) (hv : v = (x : Int)) (p : Nat) (hp : p = o + l.length) : RowAt (am_upd f p v) o (l ++ [x]) := by
  intro i y hy
  rcases ap_get hy with ⟨h1, h2⟩ | ⟨h1, h2⟩
  · rw [am_updN (by omega)]; exact h i y h2
  · subst h1; subst h2; subst hp; rw [hv]; unfold am_upd; rw [if_pos rfl]
theorem RowAt.upd {f : Nat → Int} {o : Nat} {l : List Nat} (h : RowAt f o l) (p : Nat) (v : Int) (hp : p < o ∨ o + l.length ≤ p) : RowAt (am_upd f p v) o l := by
  intro i y hy
  have := lt_get hy
  rw [am_updN (by omega)]; exact h i y hy
theorem RowAt.cpy {f g : Nat → Int} {o p n : Nat} {l : List Nat} (h : RowAt f o l) (hn : n = l.length) : RowAt (am_cpy f g o p n) p l := by
  intro i y hy
  have := lt_get hy
  unfold am_cpy
  rw [if_pos (by omega), show o + (p + i - p) = o + i by omega]
  exact h i y hy
theorem RowAt.keep {f g : Nat → Int} {o p n q : Nat} {l : List Nat} (h : RowAt g q l) (hd : q + l.length ≤ p ∨ p + n ≤ q) : RowAt (am_cpy f g o p n) q l := by
  intro i y hy
  have := lt_get hy
  unfold am_cpy
  rw [if_neg (by omega)]
  exact h i y hy
def CN (S : RSt) (g : G2) : Prop := rI g 3 3 = (S.nms.length : Int) ∧ rI g 3 4 = (S.cst : Int) ∧ rJ g 3 5 = S.nvs ∧ ∀ (i : Nat) (x : RNm), S.nms[i]? = some x → g.2.2.2 4 i = x.code ∧ g.2.2.1 5 i = (x.role : Int) ∧ (x.role = 2 → g.2.2.1 6 i = (x.lst : Int))
def CS (S : RSt) (g : G2) : Prop := rI g 10 4 = (S.sms.length : Int) ∧ ∀ (k : Nat) (s : RSm), S.sms[k]? = some s → g.2.2.2 8 k = s.lab ∧ g.2.2.1 9 k = (s.kind : Int) ∧ g.2.2.1 12 k = (s.row.length : Int) ∧ RowAt (g.2.2.1 11) (24 * k) s.row ∧ g.2.2.2 13 k = s.vs ∧ (2 ≤ s.kind → g.2.2.2 14 k = s.mand ∧ g.2.2.1 15 k = (s.asn : Int))
def AsAt (g : G2) (j : Nat) (x : RAs) : Prop := g.2.2.1 17 j = (x.stm : Int) ∧ g.2.2.1 18 j = (x.prs.length : Int) ∧ (∀ (u : Nat) (p : Nat × Nat), x.prs[u]? = some p → g.2.2.1 19 (40 * j + u) = 60 * (p.1 : Int) + p.2) ∧ g.2.2.1 20 j = (x.stp : Int) ∧ g.2.2.1 21 j = (x.hgt : Int) ∧ (∀ i : Nat, i < 40 → g.2.2.1 22 (40 * j + i) = (x.use i : Int)) ∧ g.2.2.1 23 j = b01 x.inc ∧ g.2.2.1 24 j = b01 x.snd
def CA (S : RSt) (g : G2) : Prop := rI g 16 8 = (S.ass.length : Int) ∧ ∀ (j : Nat) (x : RAs), S.ass[j]? = some x → AsAt g j x
def CX (S : RSt) (g : G2) : Prop := (rJ g 26 0 = S.vars ∧ rJ g 26 1 = S.typed ∧ rJ g 26 2 = S.hyps) ∧ rI g 26 4 = (S.prs.length : Int) ∧ (∀ (i : Nat) (p : Nat × Nat), S.prs[i]? = some p → g.2.2.1 27 i = 60 * (p.1 : Int) + p.2) ∧ (∀ v : Nat, v < 60 → g.2.2.2 28 v = apOf S.prs v) ∧ rI g 26 6 = (S.out.length : Int) ∧ ∀ (t : Nat) (o : Int64 × Int64 × Int64 × Nat), S.out[t]? = some o → g.2.2.2 29 t = o.1 ∧ g.2.2.2 30 t = o.2.1 ∧ g.2.2.2 31 t = o.2.2.1 ∧ g.2.2.1 32 t = (o.2.2.2 : Int)
def CR (S : RSt) (g : G2) : Prop := rI g 25 6 = (S.stage : Int) ∧ (1 ≤ S.stage → S.stage ≤ 3 → rI g 25 7 = (S.taken : Int) ∧ rJ g 25 8 = S.tv)
def CC (S : RSt) (g : G2) : Prop := (4 ≤ S.stage → g.2.2.2 8 S.sms.length = S.clab ∧ g.2.2.1 12 S.sms.length = (S.crow.length : Int) ∧ g.2.2.2 13 S.sms.length = S.cvs ∧ RowAt (g.2.2.1 11) (24 * S.sms.length) S.crow) ∧ (5 ≤ S.stage → g.2.2.1 9 S.sms.length = (S.ckind : Int)) ∧ (10 ≤ S.stage → g.2.2.2 14 S.sms.length = S.cmand ∧ g.2.2.1 15 S.sms.length = (S.ass.length : Int) ∧ AsAt g S.ass.length S.ca)
/-- a stack of rows -/
def StkAt (f l : Nat → Int) (v : Nat → Int64) (s : List (List Nat × Int64)) : Prop := ∀ (r : Nat) (e : List Nat × Int64), s[r]? = some e → RowAt f (24 * r) e.1 ∧ l r = (e.1.length : Int) ∧ v r = e.2
def CPf (S : RSt) (g : G2) : Prop := 10 ≤ S.stage → rI g 34 4 = (S.stk.length : Int) ∧ StkAt (g.2.2.1 35) (g.2.2.1 36) (g.2.2.2 37) S.stk ∧ rI g 33 7 = b01 S.gap
def CL (S : RSt) (g : G2) : Prop := 12 ≤ S.stage → rI g 43 3 = (S.refs.length : Int) ∧ (∀ (i k : Nat), S.refs[i]? = some k → g.2.2.1 44 i = (k : Int)) ∧ rI g 43 4 = (S.lstd : Int) ∧ rI g 45 4 = (S.tags.length : Int) ∧ StkAt (g.2.2.1 46) (g.2.2.1 47) (g.2.2.2 48) S.tags ∧ rI g 43 6 = (S.tc : Int) ∧ (S.ins = true ∨ S.beh = true → rI g 43 7 = (S.num : Int)) ∧ rI g 43 8 = b01 S.ins ∧ rI g 43 9 = b01 S.beh
def CK (S : RSt) (g : G2) : Prop := CN S g ∧ CS S g ∧ CA S g ∧ rI g 38 4 = 0
def CRep (S : RSt) (g : G2) : Prop := CK S g ∧ CX S g ∧ CR S g ∧ CC S g ∧ CPf S g ∧ CL S g
/-- the class answers as our own words do -/
def OutC (S : RSt) (o : Option (Int × G2)) : RS → Prop
  | .error f => ∃ g', o = some (f, g') ∧ CK S g' ∧ -12 < f ∧ f < 0
  | .ok S' => ∃ g', o = some (0, g') ∧ CRep S' g'
theorem fndN_congr {f f' : Nat → Int64} {c : Int64} : ∀ k i, (∀ u, i ≤ u → u < i + k → f u = f' u) → fndN f c k i = fndN f' c k i := by
  intro k
  induction k with
  | zero => intro i _; rfl
  | succ k ih =>
    intro i h
    unfold fndN
    rw [h i (by omega) (by omega), ih (i + 1) (fun u h1 h2 => h u (by omega) (by omega))]
theorem c_find {S : RSt} {g : G2} (h : CN S g) (hn : S.nms.length ≤ 60) (c : Int64) : f_Names_find_4 c g = some (fnd S c, g) := by
  obtain ⟨h1, h2, h3, h4⟩ := h
  rw [e_Names_find g c S.nms.length h1 hn]
  unfold fnd
  rw [fndN_congr (f := g.2.2.2 4) (f' := cdf S) S.nms.length 0 (fun u _ hu => by
    obtain ⟨y, hy⟩ := ex_get (l := S.nms) (k := u) (by omega)
    rw [(h4 u y hy).1]
    unfold cdf
    rw [hy]; rfl)]
theorem fnd_cases (S : RSt) (c : Int64) : fnd S c = -1 ∨ ∃ (u : Nat) (x : RNm), fnd S c = (u : Int) ∧ u < S.nms.length ∧ S.nms[u]? = some x ∧ x.code = c := by
  rcases fndN_spec (cdf S) c S.nms.length 0 with ⟨h, _⟩ | ⟨u, h1, h2, h3, h4⟩
  · exact Or.inl h
  · obtain ⟨y, hy⟩ := ex_get (l := S.nms) (k := u) (by omega)
    refine Or.inr ⟨u, y, h1, by omega, hy, ?_⟩
    unfold cdf at h4
    rw [hy] at h4
    exact h4
theorem fnd_none {S : RSt} {c : Int64} (h : fnd S c = -1) (i : Nat) (x : RNm) (hx : S.nms[i]? = some x) : x.code ≠ c := by
  rcases fndN_spec (cdf S) c S.nms.length 0 with ⟨_, h2⟩ | ⟨u, h1, _⟩
  · have := lt_get hx
    have h3 := h2 i (by omega) (by omega)
    unfold cdf at h3
    rw [hx] at h3
    exact h3
  · exfalso
    have : fnd S c = (u : Int) := h1
    omega
theorem rol_get {S : RSt} {i : Nat} {x : RNm} (h : S.nms[i]? = some x) : rol S i = x.role := by unfold rol; rw [h]; rfl
