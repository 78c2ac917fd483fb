/-! ===== what holds of every state of a reading ===== -/
def MK (S : RSt) (l : List Nat) (x : Int64) : Prop := ∀ v, v < 64 → (tb x v = true ↔ v ∈ l ∧ rol S v = 1)
def RowOk (S : RSt) (l : List Nat) : Prop := 1 ≤ l.length ∧ l.length ≤ 24 ∧ (∀ v ∈ l, v < S.nms.length ∧ rol S v ≤ 1) ∧ (∀ c, l.head? = some c → rol S c = 0)
/-- a floating hypothesis of the variable v is among these, before e -/
def FV (S : RSt) (p : Nat → Prop) (v e : Nat) : Prop := ∃ f, p f ∧ f < e ∧ kindS S f = 0 ∧ (rowS S f)[1]? = some v
/-- what an assertion needs binds all its variables -/
def Bnd (S : RSt) (k : Nat) (mand : Int64) (row : List Nat) (prs : List (Nat × Nat)) : Prop :=
  (∀ h, h < 64 → tb mand h = true → h < k ∧ kindS S h ≤ 1) ∧ (∀ v ∈ row, rol S v = 1 → FV S (fun h => tb mand h = true) v k) ∧
  (∀ e, e < k → tb mand e = true → kindS S e = 1 → ∀ v ∈ rowS S e, rol S v = 1 → FV S (fun h => tb mand h = true) v e) ∧
  (prs.length ≤ 40 ∧ ∀ p ∈ prs, p.1 < p.2 ∧ p.2 < S.nms.length ∧ FV S (fun h => tb mand h = true) p.1 k ∧ FV S (fun h => tb mand h = true) p.2 k)
def SmOk (S : RSt) (k : Nat) (s : RSm) : Prop := s.kind ≤ 3 ∧ RowOk S s.row ∧ MK S s.row s.vs ∧ (s.kind = 0 → ∃ c v, s.row = [c, v] ∧ rol S v = 1) ∧ (2 ≤ s.kind → s.asn < S.ass.length ∧ Bnd S k s.mand s.row (prsS S s.asn))
/-- what is active -/
def FrOk (S : RSt) (vars typed hyps : Int64) : Prop := (∀ v, v < 64 → tb vars v = true → v < S.nms.length ∧ rol S v = 1) ∧ (∀ v, v < 64 → (tb typed v = true ↔ FV S (fun h => tb hyps h = true) v S.sms.length)) ∧ (∀ h, h < 64 → tb hyps h = true → h < S.sms.length ∧ kindS S h ≤ 1) ∧ (∀ e, e < S.sms.length → tb hyps e = true → kindS S e = 1 → ∀ v ∈ rowS S e, rol S v = 1 → FV S (fun h => tb hyps h = true) v e)
def I0 (S : RSt) : Prop := S.nms.length ≤ 60 ∧ S.sms.length ≤ 40 ∧ S.ass.length ≤ S.sms.length ∧ S.out.length ≤ 6 ∧ S.prs.length ≤ 40 ∧ S.stage ≤ 13
def I1 (S : RSt) : Prop := ∀ (i : Nat) (x : RNm), S.nms[i]? = some x → x.role ≤ 2 ∧ (x.role = 2 → x.lst < S.sms.length)
def I2 (S : RSt) : Prop := ∀ (k : Nat) (s : RSm), S.sms[k]? = some s → SmOk S k s
def I3 (S : RSt) : Prop := FrOk S S.vars S.typed S.hyps ∧ ∀ (t : Nat) (o : Int64 × Int64 × Int64 × Nat), S.out[t]? = some o → FrOk S o.1 o.2.1 o.2.2.1 ∧ o.2.2.2 ≤ S.prs.length ∧ ∀ (u : Nat) (q : Int64 × Int64 × Int64 × Nat), S.out[u]? = some q → t ≤ u → o.2.2.2 ≤ q.2.2.2
def I4 (S : RSt) : Prop := ∀ p ∈ S.prs, p.1 ≠ p.2 ∧ (p.1 < S.nms.length ∧ rol S p.1 = 1) ∧ (p.2 < S.nms.length ∧ rol S p.2 = 1)
def I5 (S : RSt) : Prop := (S.stage = 1 → S.taken ≤ S.nms.length) ∧ (S.stage = 2 → S.taken ≤ cnt (tb S.vars) 64) ∧ (S.stage = 3 → S.taken ≤ S.prs.length + 1 ∧ S.taken = S.tl.length ∧ (hsOf S.nms.length S.tv).length = S.taken ∧ ∀ v, v < 64 → (tb S.tv v = true ↔ v ∈ S.tl)) ∧ (S.stage = 3 → ∀ v ∈ S.tl, v < S.nms.length ∧ rol S v = 1)
def I6 (S : RSt) : Prop := (4 ≤ S.stage → S.nms.length < 60 ∧ S.sms.length < 40 ∧ (∀ v ∈ S.crow, v < S.nms.length ∧ rol S v ≤ 1) ∧ MK S S.crow S.cvs ∧ fnd S S.clab = -1) ∧ (S.stage = 4 ∨ S.stage = 5 ∨ S.stage = 8 → S.crow = []) ∧ (S.stage = 6 ∨ S.stage = 7 → S.ckind = 0) ∧ (5 ≤ S.stage → S.ckind ≤ 3) ∧ (S.stage = 5 → S.ckind = 0) ∧ (8 ≤ S.stage → 1 ≤ S.ckind) ∧ (S.stage = 6 → ∃ c, S.crow = [c] ∧ rol S c = 0) ∧ (S.stage = 7 → ∃ c v, S.crow = [c, v] ∧ rol S c = 0 ∧ rol S v = 1 ∧ tb S.vars v = true ∧ tb S.typed v = false) ∧ (9 ≤ S.stage → RowOk S S.crow ∧ ∀ v ∈ S.crow, rol S v = 1 → FV S (fun h => tb S.hyps h = true) v S.sms.length)
def StOk (S : RSt) (s : List (List Nat × Int64)) : Prop := ∀ e ∈ s, RowOk S e.1 ∧ MK S e.1 e.2
def I7 (S : RSt) : Prop := 10 ≤ S.stage → S.ckind = 3 ∧ S.ca.stm = S.sms.length ∧ Bnd S S.sms.length S.cmand S.crow S.ca.prs ∧ S.ca.hgt ≤ 16 ∧ S.stk.length ≤ 16 ∧ StOk S S.stk ∧ S.ca.inc = S.gap ∧ (S.ca.snd = true ↔ S.gap = false ∧ ∀ j, j < S.ass.length → S.ca.use j ≠ 0 → sndS S j = true)
def I8 (S : RSt) : Prop := 12 ≤ S.stage → S.refs.length = (hsOf S.sms.length S.cmand).length + S.lstd ∧ S.refs.take (hsOf S.sms.length S.cmand).length = hsOf S.sms.length S.cmand ∧ S.lstd ≤ 20 ∧ (∀ k ∈ S.refs, k < S.sms.length) ∧ StOk S S.tags ∧ S.tc ≤ 16 ∧ S.tags.length ≤ S.tc ∧ (S.gap = false → S.tags.length = S.tc) ∧ (S.ins = true ∨ S.beh = true → S.num ≤ 9999) ∧ (S.ins = true → S.beh = false)
/-- behind a number the stack has a row, if no gap was left -/
def Bh (S : RSt) : Prop := 12 ≤ S.stage → S.beh = true → S.gap = false → 0 < S.stk.length
def I9 (S : RSt) : Prop := (∀ (j : Nat) (x : RAs), S.ass[j]? = some x → x.prs.length ≤ 40 ∧ x.hgt ≤ 16 ∧ x.stm < S.sms.length ∧ ∃ s, S.sms[x.stm]? = some s ∧ 2 ≤ s.kind ∧ s.asn = j ∧ ∀ (k' : Nat) (s' : RSm), S.sms[k']? = some s' → 2 ≤ s'.kind → s'.asn = j → k' = x.stm)
def Iv (S : RSt) : Prop := I0 S ∧ I1 S ∧ I2 S ∧ I3 S ∧ I4 S ∧ I5 S ∧ I6 S ∧ I7 S ∧ I8 S ∧ I9 S
