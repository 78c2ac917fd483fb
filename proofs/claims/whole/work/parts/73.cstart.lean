/-! ===== the class's read, from its beginning ===== -/
theorem class_read (g : G2) (len : Nat) (ht : TXT g len) (h38 : rI g 38 4 = 0) (ws : List (List Int)) (hc : Cut (g.2.2.1 2) len 0 ws) (hw : ws.length ≤ 801) : ∃ g', f_L_read_1 g = some (rAns (runS ws.length (toks 0 false ws).2 RSt.z (toks 0 false ws).1), g') ∧ CK (runS ws.length (toks 0 false ws).2 RSt.z (toks 0 false ws).1).2.2 g' ∧ rI g' 0 5 = (runS ws.length (toks 0 false ws).2 RSt.z (toks 0 false ws).1).2.1 := by
  obtain ⟨g1, a1, a2, a3, a4, a5⟩ := c_forget [] 0 (Nat.le_refl 0) (by decide) (fun p hp => by cases hp) (gI (gJ (gJ (gJ (gI (gI (gJ (gI (gI (gI (gI (gI g 1 2 0) 1 4 0) 1 7 0) 3 3 0) 3 4 0) 3 5 (Int64.ofNat 0)) 10 4 0) 16 8 0) 26 0 (Int64.ofNat 0)) 26 1 (Int64.ofNat 0)) 26 2 (Int64.ofNat 0)) 26 6 0) (fun j p hj => by simp at hj)
  have hrun : f_L_read_1 g = l_L_read_1 20000 0 0 0 (gI g1 25 6 0) := by
    unfold f_L_read_1 f_Text_rewind_2 f_Reader_begin_26 f_Names_begin_4 f_Context_begin_27
    rw [Option.bind_some]
    have a1' : f_Context_forgetPairs_27 0 (gI (gJ (gJ (gJ (gI (gI (gJ (gI (gI (gI (gI (gI g 1 2 0) 1 4 0) 1 7 0) 3 3 0) 3 4 0) 3 5 (Int64.ofNat 0)) 10 4 0) 16 8 0) 26 0 (Int64.ofNat 0)) 26 1 (Int64.ofNat 0)) 26 2 (Int64.ofNat 0)) 26 6 0) = some g1 := a1
    rw [Option.bind_some, a1', Option.bind_some, Option.bind_some, Option.bind_some]
  have e1 : ∀ k, rI g1 1 k = rI (gI (gI (gI g 1 2 0) 1 4 0) 1 7 0) 1 k := fun k => congrFun (a3 1 (by decide)).1 k
  have e2 : g1.2.2.1 2 = g.2.2.1 2 := (a3 2 (by decide)).2.2.1
  have hT : TXT (gI g1 25 6 0) len := ⟨ht.1, (e1 1).trans ht.2.1, fun i hi => by show 32 ≤ g1.2.2.1 2 i ∧ g1.2.2.1 2 i ≤ 126; rw [e2]; exact ht.2.2 i hi⟩
  have hA : AtC (gI g1 25 6 0) len ws 0 false := ⟨hT, e1 2, e1 7, 0, e1 4, by show Cut (g1.2.2.1 2) len 0 ws; rw [e2]; exact hc⟩
  obtain ⟨p1, p2, p3⟩ := a2
  have hR : CRep RSt.z (gI g1 25 6 0) := by
    refine ⟨⟨⟨?_, ?_, ?_, fun i x hx => ?_⟩, ⟨?_, fun k s hk => ?_⟩, ⟨?_, fun j x hx => ?_⟩, ?_⟩, ⟨⟨?_, ?_, ?_⟩, p1, p2, p3, ?_, fun t o ho => ?_⟩, ⟨rfl, fun z => absurd z (by decide)⟩, ⟨fun z => absurd z (by decide), fun z => absurd z (by decide), fun z => absurd z (by decide)⟩, fun z => absurd z (by decide), fun z => absurd z (by decide)⟩
    · exact congrFun (a3 3 (by decide)).1 3
    · exact congrFun (a3 3 (by decide)).1 4
    · exact congrFun (a3 3 (by decide)).2.1 5
    · have h2 : ([] : List RNm)[i]? = some x := hx
      simp at h2
    · exact congrFun (a3 10 (by decide)).1 4
    · have h2 : ([] : List RSm)[k]? = some s := hk
      simp at h2
    · exact congrFun (a3 16 (by decide)).1 8
    · have h2 : ([] : List RAs)[j]? = some x := hx
      simp at h2
    · exact (congrFun (a3 38 (by decide)).1 4).trans h38
    · exact congrFun a4 0
    · exact congrFun a4 1
    · exact congrFun a4 2
    · exact a5
    · have h2 : ([] : List (Int64 × Int64 × Int64 × Nat))[t]? = some o := ho
      simp at h2
  rw [hrun]
  have := c_read len (toks 0 false ws).1 RSt.z (gI g1 25 6 0) ws (toks 0 false ws).2 0 0 20000 hA rfl hR iv_z.1 iv_z.2 (by omega) (by have := (toks_len ws 0 false).1; omega)
  rw [Nat.zero_add] at this
  exact this
