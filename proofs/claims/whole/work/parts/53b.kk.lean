/-! what stays when cells stay -/
theorem CN.kk {S : RSt} {g g' : G2} {P : Nat → Prop} (h : CN S g) (k : KK P g g') (p : P 3 ∧ P 4 ∧ P 5 ∧ P 6) : CN S g' := by
  obtain ⟨p1, p2, p3, p4⟩ := p
  unfold CN rI rJ at *
  rw [(k 3 p1).1, (k 3 p1).2.1, (k 4 p2).2.2.2, (k 5 p3).2.2.1, (k 6 p4).2.2.1]; exact h
theorem CS.kk {S : RSt} {g g' : G2} {P : Nat → Prop} (h : CS S g) (k : KK P g g') (p : P 8 ∧ P 9 ∧ P 10 ∧ P 11 ∧ P 12 ∧ P 13 ∧ P 14 ∧ P 15) : CS S g' := by
  obtain ⟨p1, p2, p3, p4, p5, p6, p7, p8⟩ := p
  unfold CS rI at *
  rw [(k 10 p3).1, (k 8 p1).2.2.2, (k 9 p2).2.2.1, (k 11 p4).2.2.1, (k 12 p5).2.2.1, (k 13 p6).2.2.2, (k 14 p7).2.2.2, (k 15 p8).2.2.1]; exact h
theorem AsAt.kk {j : Nat} {x : RAs} {g g' : G2} {P : Nat → Prop} (h : AsAt g j x) (k : KK P g g') (p : P 17 ∧ P 18 ∧ P 19 ∧ P 20 ∧ P 21 ∧ P 22 ∧ P 23 ∧ P 24) : AsAt g' j x := by
  obtain ⟨p1, p2, p3, p4, p5, p6, p7, p8⟩ := p
  unfold AsAt at *
  rw [(k 17 p1).2.2.1, (k 18 p2).2.2.1, (k 19 p3).2.2.1, (k 20 p4).2.2.1, (k 21 p5).2.2.1, (k 22 p6).2.2.1, (k 23 p7).2.2.1, (k 24 p8).2.2.1]; exact h
theorem CA.kk {S : RSt} {g g' : G2} {P : Nat → Prop} (h : CA S g) (k : KK P g g') (p0 : P 16) (p : P 17 ∧ P 18 ∧ P 19 ∧ P 20 ∧ P 21 ∧ P 22 ∧ P 23 ∧ P 24) : CA S g' := by
  obtain ⟨h1, h2⟩ := h
  refine ⟨?_, fun j x hx => (h2 j x hx).kk k p⟩
  unfold rI at *
  rw [(k 16 p0).1]; exact h1
theorem CX.kk {S : RSt} {g g' : G2} {P : Nat → Prop} (h : CX S g) (k : KK P g g') (p : P 26 ∧ P 27 ∧ P 28 ∧ P 29 ∧ P 30 ∧ P 31 ∧ P 32) : CX S g' := by
  obtain ⟨p1, p2, p3, p4, p5, p6, p7⟩ := p
  unfold CX rI rJ at *
  rw [(k 26 p1).1, (k 26 p1).2.1, (k 27 p2).2.2.1, (k 28 p3).2.2.2, (k 29 p4).2.2.2, (k 30 p5).2.2.2, (k 31 p6).2.2.2, (k 32 p7).2.2.1]; exact h
theorem CR.kk {S : RSt} {g g' : G2} {P : Nat → Prop} (h : CR S g) (k : KK P g g') (p : P 25) : CR S g' := by
  unfold CR rI rJ at *
  rw [(k 25 p).1, (k 25 p).2.1]; exact h
theorem CC.kk {S : RSt} {g g' : G2} {P : Nat → Prop} (h : CC S g) (k : KK P g g') (p : P 8 ∧ P 9 ∧ P 11 ∧ P 12 ∧ P 13 ∧ P 14 ∧ P 15) (q : P 17 ∧ P 18 ∧ P 19 ∧ P 20 ∧ P 21 ∧ P 22 ∧ P 23 ∧ P 24) : CC S g' := by
  obtain ⟨p1, p2, p4, p5, p6, p7, p8⟩ := p
  obtain ⟨h1, h2, h3⟩ := h
  refine ⟨?_, ?_, fun hs => ⟨?_, ?_, (h3 hs).2.2.kk k q⟩⟩
  · rw [(k 8 p1).2.2.2, (k 12 p5).2.2.1, (k 13 p6).2.2.2, (k 11 p4).2.2.1]; exact h1
  · rw [(k 9 p2).2.2.1]; exact h2
  · rw [(k 14 p7).2.2.2]; exact (h3 hs).1
  · rw [(k 15 p8).2.2.1]; exact (h3 hs).2.1
theorem CPf.kk {S : RSt} {g g' : G2} {P : Nat → Prop} (h : CPf S g) (k : KK P g g') (p : P 33 ∧ P 34 ∧ P 35 ∧ P 36 ∧ P 37) : CPf S g' := by
  obtain ⟨p1, p2, p3, p4, p5⟩ := p
  unfold CPf rI at *
  rw [(k 33 p1).1, (k 34 p2).1, (k 35 p3).2.2.1, (k 36 p4).2.2.1, (k 37 p5).2.2.2]; exact h
theorem CL.kk {S : RSt} {g g' : G2} {P : Nat → Prop} (h : CL S g) (k : KK P g g') (p : P 43 ∧ P 44 ∧ P 45 ∧ P 46 ∧ P 47 ∧ P 48) : CL S g' := by
  obtain ⟨p1, p2, p3, p4, p5, p6⟩ := p
  unfold CL rI at *
  rw [(k 43 p1).1, (k 44 p2).2.2.1, (k 45 p3).1, (k 46 p4).2.2.1, (k 47 p5).2.2.1, (k 48 p6).2.2.2]; exact h
theorem z38 {g g' : G2} {P : Nat → Prop} (h : rI g 38 4 = 0) (k : KK P g g') (p : P 38) : rI g' 38 4 = 0 := by
  unfold rI at *
  rw [(k 38 p).1]; exact h
theorem KK.mono {P Q : Nat → Prop} {g g' : G2} (h : KK P g g') (q : ∀ r, Q r → P r) : KK Q g g' := fun r hr => h r (q r hr)
