/-! ===== the reading of a text, in our own words: what both programs do with a word ===== -/
abbrev bit (i : Nat) : Int64 := am_shl (Int64.ofNat 1) (i : Int)
def RSt.z : RSt := (([], 0, Int64.ofNat 0, [], []), (Int64.ofNat 0, Int64.ofNat 0, Int64.ofNat 0, [], []), (0, 0, Int64.ofNat 0, [], Int64.ofNat 0, 0, [], Int64.ofNat 0, Int64.ofNat 0), (0, [], 0, 0, fun _ => 0, false, true), ([], false), ([], 0, [], 0, 0, false, false))
def cdf (S : RSt) (i : Nat) : Int64 := ((S.nms[i]?).map RNm.code).getD (Int64.ofNat 0)
def fnd (S : RSt) (c : Int64) : Int := fndN (cdf S) c S.nms.length 0
def rol (S : RSt) (i : Nat) : Nat := ((S.nms[i]?).map RNm.role).getD 3
def mean (S : RSt) (id : Int) : Int := if id < 0 then -1 else if rol S id.toNat = 0 then 0 else if tb S.vars id.toNat = true then 1 else -1
/-- the pairs as sets: from whom x is apart -/
def apStep (f : Nat → Int64) (p : Nat × Nat) : Nat → Int64 := am_upd (am_upd f p.1 (f p.1 ||| bit p.2)) p.2 ((am_upd f p.1 (f p.1 ||| bit p.2)) p.2 ||| bit p.1)
def apOf (l : List (Nat × Nat)) : Nat → Int64 := l.foldl apStep (fun _ => Int64.ofNat 0)
def hsOf (k : Nat) (x : Int64) : List Nat := (List.range k).filter (fun h => tb x h)
abbrev RS := Except Int RSt
def declareS (S : RSt) : RS := .ok ((((((S.uNms (S.nms ++ [(S.clab, 2, S.sms.length)])).uSms (S.sms ++ [(S.clab, S.ckind, S.crow, S.cvs, S.cmand, S.ass.length)])).uHyps (if S.ckind ≤ 1 then S.hyps ||| bit S.sms.length else S.hyps)).uAss (if S.ckind ≤ 1 then S.ass else S.ass ++ [S.ca])).uTyped (if S.ckind = 0 then S.typed ||| S.cvs else S.typed)).uStage 0)
def takeLabelS (S : RSt) (c : Int64) : RS :=
  if fnd S c ≠ -1 then .error (-4) else if 60 ≤ S.nms.length ∨ 40 ≤ S.sms.length then .error (-7)
  else .ok ((((S.uStage 4).uClab c).uCrow []).uCvs (Int64.ofNat 0))
def declareConstantS (S : RSt) (c : Int64) : RS :=
  if fnd S c ≠ -1 then .error (-4) else if 60 ≤ S.nms.length then .error (-7)
  else .ok (((S.uNms (S.nms ++ [(c, 0, 0)])).uCst (S.cst + 1)).uTaken (S.taken + 1))
def declareVariableS (S : RSt) (c : Int64) : RS :=
  if fnd S c = -1 then
    if 60 ≤ S.nms.length then .error (-7)
    else .ok ((((S.uNms (S.nms ++ [(c, 1, 0)])).uNvs (S.nvs ||| bit S.nms.length)).uVars (S.vars ||| bit S.nms.length)).uTaken (S.taken + 1))
  else if rol S (fnd S c).toNat ≠ 1 ∨ tb S.vars (fnd S c).toNat = true then .error (-4)
  else .ok ((S.uVars (S.vars ||| bit (fnd S c).toNat)).uTaken (S.taken + 1))
def takeApartS (S : RSt) (id : Int) : RS :=
  if mean S id ≠ 1 then (if mean S id = -1 then .error (-4) else .error (-6))
  else if tb S.tv id.toNat = true then .error (-4)
  else if 40 < S.prs.length + S.taken then .error (-7)
  else .ok ((((S.uPrs (S.prs ++ (hsOf S.nms.length S.tv).map (fun o => (o, id.toNat)))).uTv (S.tv ||| bit id.toNat)).uTl (S.tl ++ [id.toNat])).uTaken (S.taken + 1))
def takeKindS (S : RSt) (k : Int) : RS :=
  if k = 97 then .ok ((S.uCkind 2).uStage 8) else if k = 101 then .ok ((S.uCkind 1).uStage 8)
  else if k = 102 then .ok ((S.uCkind 0).uStage 5) else if k = 112 then .ok ((S.uCkind 3).uStage 8) else .error (-3)
def takeTypeS (S : RSt) (id : Int) : RS :=
  if mean S id ≠ 0 then (if mean S id = -1 then .error (-4) else .error (-6))
  else .ok ((S.uCrow (S.crow ++ [id.toNat])).uStage (if S.stage = 5 then 6 else 9))
def takeFloatingS (S : RSt) (id : Int) : RS :=
  if mean S id ≠ 1 then (if mean S id = -1 then .error (-4) else .error (-6))
  else if tb S.typed id.toNat = true then .error (-4)
  else .ok (((S.uCrow (S.crow ++ [id.toNat])).uCvs (S.cvs ||| bit id.toNat)).uStage 7)
def takeSymbolS (S : RSt) (id : Int) : RS :=
  if mean S id = -1 ∨ (mean S id = 1 ∧ tb S.typed id.toNat = false) then .error (-4)
  else if 24 < S.crow.length + 1 then .error (-7)
  else .ok ((S.uCrow (S.crow ++ [id.toNat])).uCvs (if mean S id = 1 then S.cvs ||| bit id.toNat else S.cvs))
/-- the variables of the statement and of the essential hypotheses that hold: the statements from i on -/
def mvS (H : Int64) : List RSm → Nat → Int64 → Int64
  | [], _, V => V
  | s :: l, i, V => mvS H l (i + 1) (if tb H i = true ∧ s.kind = 1 then V ||| s.vs else V)
def mdS (H V : Int64) : List RSm → Nat → Int64 → Int64
  | [], _, M => M
  | s :: l, i, M => mdS H V l (i + 1) (if tb H i = true ∧ (s.kind = 1 ∨ s.vs &&& V ≠ Int64.ofNat 0) then M ||| bit i else M)
def pairsOf (n : Nat) (ap : Nat → Int64) (V : Int64) : List (Nat × Nat) :=
  (List.range n).flatMap (fun x => if tb V x = true then ((List.range n).filter (fun y => decide (x < y) && tb (ap x) y && tb V y)).map (fun y => (x, y)) else [])
def beginAssertionS (S : RSt) : RSt :=
  (S.uCmand (mdS S.hyps (mvS S.hyps S.sms 0 S.cvs) S.sms 0 (Int64.ofNat 0))).uCa (S.sms.length, pairsOf S.nms.length (apOf S.prs) (mvS S.hyps S.sms 0 S.cvs), 0, 0, fun _ => 0, false, true)
def endSymbolsS (S : RSt) (k : Int) : RS :=
  if k ≠ (if S.ckind = 3 then 61 else 46) then .error (-3)
  else if S.ckind ≤ 1 then declareS S
  else if S.ckind ≠ 3 then declareS (beginAssertionS S)
  else .ok ((((beginAssertionS S).uStk []).uGap false).uStage 10)
def putS (S : RSt) (e : List Nat × Int64) : RS :=
  if 16 ≤ S.stk.length then .error (-7)
  else .ok ((S.uStk (S.stk ++ [e])).uCa ((S.ca.uStp (S.ca.stp + 1)).uHgt (max S.ca.hgt (S.stk.length + 1))))
abbrev stR (S : RSt) (i : Nat) : List Nat := ((S.stk[i]?).map (fun e => e.1)).getD []
abbrev stV (S : RSt) (i : Nat) : Int64 := ((S.stk[i]?).map (fun e => e.2)).getD (Int64.ofNat 0)
/-- one symbol replaced: the body of the row that stands for it -/
def subS (S : RSt) (σ : Nat → Nat) (s : Nat) : List Nat × Int64 := if rol S s = 1 then ((stR S (σ s)).tail, stV S (σ s)) else ([s], Int64.ofNat 0)
def repS (S : RSt) (σ : Nat → Nat) : List Nat → List Nat × Int64
  | [] => ([], Int64.ofNat 0)
  | s :: l => ((subS S σ s).1 ++ (repS S σ l).1, (subS S σ s).2 ||| (repS S σ l).2)
def rowS (S : RSt) (k : Nat) : List Nat := ((S.sms[k]?).map RSm.row).getD []
def kindS (S : RSt) (k : Nat) : Nat := ((S.sms[k]?).map RSm.kind).getD 4
def bindS (S : RSt) : List Nat → Nat → (Nat → Nat) → Option (Nat → Nat)
  | [], _, σ => some σ
  | h :: l, r, σ =>
    if kindS S h = 0 then
      (if (stR S r).head? = (rowS S h).head? then bindS S l (r + 1) (am_upd σ ((rowS S h)[1]?.getD 0) r) else none)
    else (if stR S r = (repS S σ (rowS S h)).1 then bindS S l (r + 1) σ else none)
/-- each of some is apart from each of others -/
def apartS (S : RSt) (x y : Int64) : Prop := ∀ v, v < 60 → tb x v = true → ∀ w, w < 64 → tb y w = true → tb (apOf S.prs v) w = true
def keepsS (S : RSt) (σ : Nat → Nat) (l : List (Nat × Nat)) : Prop := ∀ p ∈ l, apartS S (stV S (σ p.1)) (stV S (σ p.2))
def prsS (S : RSt) (j : Nat) : List (Nat × Nat) := ((S.ass[j]?).map RAs.prs).getD []
def sndS (S : RSt) (j : Nat) : Bool := ((S.ass[j]?).map RAs.snd).getD false
/-- an assertion that is used: it takes what it needs off the stack -/
noncomputable def useS (S : RSt) (k : Nat) (s : RSm) (b : Nat) (σ : Nat → Nat) : RS :=
  @ite _ (keepsS S σ (prsS S s.asn)) (Classical.propDecidable _)
    (if 24 < (repS S σ s.row).1.length then .error (-7)
     else putS ((S.uStk (S.stk.take b)).uCa ((S.ca.uUse (am_upd S.ca.use s.asn (S.ca.use s.asn + 1))).uSnd (S.ca.snd && sndS S s.asn))) (repS S σ s.row))
    (.error (-11))
noncomputable def stepWithS (S : RSt) (k : Nat) : RS :=
  if S.gap = true then .ok S
  else match S.sms[k]? with
    | none => .error (-8)
    | some s =>
      if s.kind ≤ 1 then putS S (s.row, s.vs)
      else if S.stk.length < (hsOf k s.mand).length then .error (-9)
      else match bindS S (hsOf k s.mand) (S.stk.length - (hsOf k s.mand).length) (fun _ => 0) with
        | none => .error (-10)
        | some σ => useS S k s (S.stk.length - (hsOf k s.mand).length) σ
def gapS (S : RSt) : RSt := (S.uGap true).uCa ((S.ca.uInc true).uSnd false)
/-- the hypothesis that holds, or the assertion, with this label -/
def usableS (S : RSt) (c : Int64) : Option Nat :=
  if fnd S c = -1 then none
  else match S.nms[(fnd S c).toNat]? with
    | none => none
    | some x => if x.role ≠ 2 then none else if kindS S x.lst ≤ 1 ∧ tb S.hyps x.lst = false then none else some x.lst
noncomputable def takeStepS (S : RSt) (c : Int64) : RS :=
  if c = Int64.ofNat 63 then .ok (gapS S) else match usableS S c with
    | none => .error (-8)
    | some k => stepWithS S k
noncomputable def beginStepsS (S : RSt) (c : Int64) : RS :=
  if c ≠ Int64.ofNat 40 then takeStepS (S.uStage 11) c
  else .ok (((((((S.uRefs (hsOf S.sms.length S.cmand)).uLstd 0).uTags []).uTc 0).uIns false).uBeh false).uStage 12)
def takeListedS (S : RSt) (c : Int64) : RS :=
  if c = Int64.ofNat 41 then .ok (S.uStage 13) else match usableS S c with
    | none => .error (-8)
    | some k => if tb S.cmand k = true then .error (-8) else if 20 ≤ S.lstd then .error (-7) else .ok ((S.uRefs (S.refs ++ [k])).uLstd (S.lstd + 1))
/-- the number that a letter makes -/
def numS (S : RSt) (c : Int) : Int := if 85 ≤ c then 5 * (if S.ins = true then (S.num : Int) else 0) + c - 85 + 1 else 20 * (if S.ins = true then (S.num : Int) else 0) + c - 65 + 1
def takeLetterS (S : RSt) (c : Int) : RS :=
  if c = 63 then (if S.ins = true then .error (-8) else .ok (gapS (S.uBeh false)))
  else if c = 90 then
    (if S.beh = false then .error (-8) else if 16 ≤ S.tc then .error (-7)
     else .ok (((S.uBeh false).uTc (S.tc + 1)).uTags (if S.gap = true then S.tags else S.tags ++ (S.stk[S.stk.length - 1]?).toList)))
  else if 9999 < numS S c then .error (-7)
  else .ok (((S.uIns (decide (85 ≤ c))).uBeh (!decide (85 ≤ c))).uNum (numS S c).toNat)
noncomputable def stepNumS (S : RSt) : RS :=
  match S.refs[S.num - 1]? with
  | some k => stepWithS S k
  | none => if S.tc ≤ S.num - S.refs.length - 1 then .error (-8) else if S.gap = true then .ok S else match S.tags[S.num - S.refs.length - 1]? with
    | some e => putS S e
    | none => .error (-8)
noncomputable def letterS (S : RSt) (c : Int) : RS := match takeLetterS S c with
  | .error f => .error f
  | .ok S1 => if S1.beh = true then stepNumS S1 else .ok S1
noncomputable def lettersS : RSt → List Int → RS
  | S, [] => .ok S
  | S, c :: l => match letterS S c with
    | .error f => .error f
    | .ok S1 => lettersS S1 l
def badLetters (l : List Int) : Prop := ∃ c ∈ l, c ≠ 63 ∧ (c < 65 ∨ 90 < c)
noncomputable def takeLettersS (S : RSt) (l : List Int) : RS := @ite _ (badLetters l) (Classical.propDecidable _) (.error (-3)) (lettersS S l)
def openS (S : RSt) : RS := if 6 ≤ S.out.length then .error (-7) else .ok (S.uOut (S.out ++ [(S.vars, S.typed, S.hyps, S.prs.length)]))
def closeS (S : RSt) : RS := match S.out[S.out.length - 1]? with
  | none => .error (-5)
  | some o => .ok (((((S.uVars o.1).uTyped o.2.1).uHyps o.2.2.1).uPrs (S.prs.take o.2.2.2)).uOut (S.out.take (S.out.length - 1)))
def beginNamesS (S : RSt) (k : Nat) : RS := .ok ((((S.uStage k).uTaken 0).uTv (Int64.ofNat 0)).uTl [])
def unlabelledS (S : RSt) (k : Int) : RS :=
  if k = 99 then (if 0 < S.out.length then .error (-5) else beginNamesS S 1) else if k = 100 then beginNamesS S 3 else if k = 118 then beginNamesS S 2
  else if k = 123 then openS S else if k = 125 then closeS S else .error (-3)
def endNamesS (S : RSt) (k : Int) : RS := if k ≠ 46 ∨ S.taken < (if S.stage = 3 then 2 else 1) then .error (-3) else .ok (S.uStage 0)
def endProofS (S : RSt) : RS :=
  if S.stage = 13 ∧ S.ins = true then .error (-8) else if S.gap = true then declareS S else if S.stk.length ≠ 1 then .error (-9)
  else if stR S 0 = S.crow then declareS S else .error (-10)
def keyS (S : RSt) (k : Int) : RS :=
  if S.stage = 0 then unlabelledS S k else if S.stage ≤ 3 then endNamesS S k else if S.stage = 4 then takeKindS S k
  else if S.stage = 7 then (if k = 46 then declareS S else .error (-3)) else if S.stage = 9 then endSymbolsS S k
  else if S.stage = 10 ∨ S.stage = 11 ∨ S.stage = 13 then (if k = 46 then endProofS S else .error (-3)) else .error (-3)
noncomputable def nameS (S : RSt) (c : Int64) (l : List Int) : RS :=
  if S.stage = 0 then takeLabelS S c else if S.stage = 1 then declareConstantS S c else if S.stage = 2 then declareVariableS S c
  else if S.stage = 3 then takeApartS S (fnd S c) else if S.stage = 5 then takeTypeS S (fnd S c) else if S.stage = 6 then takeFloatingS S (fnd S c)
  else if S.stage = 8 then takeTypeS S (fnd S c) else if S.stage = 9 then takeSymbolS S (fnd S c) else if S.stage = 10 then beginStepsS S c
  else if S.stage = 11 then takeStepS S c else if S.stage = 12 then takeListedS S c else if S.stage = 13 then takeLettersS S l else .error (-3)
/-! a word is the list of its characters -/
def kwOf (l : List Int) : Int := match l with
  | [a, b] => if a = 36 then b else 0
  | _ => 0
def cdOf (l : List Int) : Int64 := l.foldl (fun v c => v * Int64.ofNat 128 + am_i2l c) (Int64.ofNat 0)
noncomputable def wordS (S : RSt) (l : List Int) : RS := if 36 ∈ l then keyS S (kwOf l) else if 8 < l.length then .error (-3) else nameS S (cdOf l) l
/-- the words that are in no comment, with their numbers; whether a comment is open at the last -/
def toks : Nat → Bool → List (List Int) → List (Nat × List Int) × Bool
  | _, b, [] => ([], b)
  | j, true, l :: ws => toks (j + 1) (decide (l ≠ [36, 41])) ws
  | j, false, l :: ws => if l = [36, 40] then toks (j + 1) true ws else ((j, l) :: (toks (j + 1) false ws).1, (toks (j + 1) false ws).2)
/-- fault (0 if none), place, and what was read -/
noncomputable def runS (W : Nat) (b : Bool) : RSt → List (Nat × List Int) → Int × Int × RSt
  | S, [] => if b = true ∨ S.stage ≠ 0 ∨ 0 < S.out.length then (-2, (W : Int), S) else (0, -1, S)
  | S, (j, l) :: ts => match wordS S l with
    | .error f => (f, (j : Int), S)
    | .ok S' => runS W b S' ts
