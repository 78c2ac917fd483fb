/-! the relation between calls, and what is left: read -/
def RA (g : G2) (n m a : Nat) : Prop := (rI g 0 5 = rI g 49 7 ∧ ir (rI g 0 5)) ∧ R0 g n m a ∧ R1 g n ∧ R2 g n ∧ R3 g n m ∧ R4 g m a ∧ R5 g m a ∧ R6 g n a ∧ R7 g a
def RR (g : G2) : Prop := ∃ len n m a : Nat, RT g len ∧ RA g n m a ∧ rI g 38 4 = 0
theorem RA.sb {g g' : G2} {n m a : Nat} (h : RA g n m a) (s : SB g g') : RA g' n m a := by
  obtain ⟨s1, s2, s3, s4⟩ := s
  have i : ∀ r k : Nat, (r ≠ 1 ∧ r ≠ 49) ∨ k ≠ 1 → rI g' r k = rI g r k := fun r k hh => s1 r k (by omega) (by omega)
  unfold RA R0 R1 R2 R3 R4 R5 R6 R7 CP MP rJ at h ⊢
  rw [i 0 5 (by decide), i 49 7 (by decide), i 3 3 (by decide), i 49 8 (by decide), i 10 4 (by decide), i 49 15 (by decide), i 16 8 (by decide), i 49 27 (by decide), i 3 4 (by decide), s2, s4, s3 5 (by decide) (by decide), s3 54 (by decide) (by decide), s3 9 (by decide) (by decide), s3 58 (by decide) (by decide), s3 59 (by decide) (by decide), s3 12 (by decide) (by decide), s3 61 (by decide) (by decide), s3 11 (by decide) (by decide), s3 60 (by decide) (by decide), s3 17 (by decide) (by decide), s3 68 (by decide) (by decide), s3 18 (by decide) (by decide), s3 73 (by decide) (by decide), s3 20 (by decide) (by decide), s3 74 (by decide) (by decide), s3 21 (by decide) (by decide), s3 75 (by decide) (by decide), s3 22 (by decide) (by decide), s3 76 (by decide) (by decide), s3 24 (by decide) (by decide), s3 78 (by decide) (by decide), s3 23 (by decide) (by decide), s3 64 (by decide) (by decide), s3 77 (by decide) (by decide), s3 19 (by decide) (by decide), s3 71 (by decide) (by decide), s3 72 (by decide) (by decide), s3 70 (by decide) (by decide), s3 69 (by decide) (by decide)]
  exact h
theorem RR.feed1 (g : G2) (h : RR g) : ∃ len, RT g len := by
  obtain ⟨len, n, m, a, h1, _⟩ := h
  exact ⟨len, h1⟩
theorem RR.feed2 (g g' : G2) (len' : Nat) (h : RR g) (s : SB g g') (t : RT g' len') : RR g' := by
  obtain ⟨len, n, m, a, h1, h2, h3⟩ := h
  exact ⟨len', n, m, a, t, h2.sb s, (s.1 38 4 (by omega) (by omega)).trans h3⟩
theorem PI.of {f f' : G2 → Option (Int × G2)} (h : ∀ g n m a, RA g n m a → ∃ r, ir r ∧ f g = some (r, g) ∧ f' g = some (r, g)) : PI RR f f' := by
  intro g hg
  obtain ⟨len, n, m, a, h1, h2, h3⟩ := hg
  obtain ⟨r, r1, r2, r3⟩ := h g n m a h2
  exact ⟨r, g, g, r1, r2, r3, len, n, m, a, h1, h2, h3⟩
theorem PJ.of {f f' : G2 → Option (Int64 × G2)} (h : ∀ g n m a, RA g n m a → ∃ r, f g = some (r, g) ∧ f' g = some (r, g)) : PJ RR f f' := by
  intro g hg
  obtain ⟨len, n, m, a, h1, h2, h3⟩ := hg
  obtain ⟨r, r2, r3⟩ := h g n m a h2
  exact ⟨r, g, g, r2, r3, len, n, m, a, h1, h2, h3⟩
theorem law_read (h00 : RR g_0) (h_read : PI RR f_L_read_1 f_M_read_50) : PureLaw := by
  refine law_open RR h00 (p_feed RR RR.feed1 RR.feed2) (p_clear RR RR.feed1 RR.feed2) h_read ?_ ?_ ?_ ?_ ?_ ?_ ?_ ?_ ?_ ?_ ?_
  · exact PI.of (fun g n m a ⟨⟨p1, p2⟩, h0, h1, h2, h3, h4, h5, h6, h7⟩ => ⟨_, p2, (q_place p1).1, (q_place p1).2⟩)
  · exact fun x hx => PI.of (fun g n m a ⟨_, h0, h1, h2, h3, h4, h5, h6, h7⟩ => q_count h0 h1 h2 h3 h5 x hx)
  · exact fun x hx => PJ.of (fun g n m a ⟨_, h0, h1, h2, h3, h4, h5, h6, h7⟩ => q_label h0 h3 h4 x hx)
  · exact fun x y hx hy => PJ.of (fun g n m a ⟨_, h0, h1, h2, h3, h4, h5, h6, h7⟩ => q_symbol h0 h1 h3 h4 x y hx hy)
  · exact fun x y hx hy => PJ.of (fun g n m a ⟨_, h0, h1, h2, h3, h4, h5, h6, h7⟩ => q_hypothesis h0 h3 h4 h7 x y hx hy)
  · exact fun x hx => PI.of (fun g n m a ⟨_, h0, h1, h2, h3, h4, h5, h6, h7⟩ => q_pairs h0 h4 x hx)
  · exact fun x c d hx => PI.of (fun g n m a ⟨_, h0, h1, h2, h3, h4, h5, h6, h7⟩ => q_apart h0 h1 h6 x c d hx)
  · exact fun x hx => PI.of (fun g n m a ⟨_, h0, h1, h2, h3, h4, h5, h6, h7⟩ => q_steps h0 h4 x hx)
  · exact fun x hx => PI.of (fun g n m a ⟨_, h0, h1, h2, h3, h4, h5, h6, h7⟩ => q_depth h0 h4 x hx)
  · exact fun x y hx hy => PI.of (fun g n m a ⟨_, h0, h1, h2, h3, h4, h5, h6, h7⟩ => q_uses h0 h4 x y hx hy)
  · exact fun x hx => PI.of (fun g n m a ⟨_, h0, h1, h2, h3, h4, h5, h6, h7⟩ => q_proved h0 h4 x hx)
