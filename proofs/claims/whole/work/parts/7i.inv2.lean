section INV2
variable {S : Nat → Int32} {k : Nat} {x y z : Int32}
def IV (S : Nat → Int32) : Prop := PTs S ∧ HO S ∧ okV S 13 60 6 ∧ okV S 15 84 8 ∧ okR S
theorem okV.upk {a w M : Nat} (h : okV S a w M) (h11 : k ≠ 11) (ha : k ≠ a) (hk : k < w ∨ w + M ≤ k) : okV (upd S k x) a w M := by
  obtain ⟨t, h1, h2, h3⟩ := h
  refine ⟨t, h1, by rw [upd_n (by omega)]; exact h2, fun i hi => ?_⟩
  obtain ⟨p, g1, g2⟩ := h3 i hi
  refine ⟨p, ?_, by rw [upd_n (by omega)]; exact g2⟩
  unfold nP at g1 ⊢
  rw [upd_n (by omega)]
  exact g1
theorem okR.upk (h : okR S) (hk : k < 72 ∨ 84 ≤ k) (h14 : k ≠ 14) : okR (upd S k x) := by
  obtain ⟨t, h1, h2, h3⟩ := h
  refine ⟨t, h1, by rw [upd_n (by omega)]; exact h2, fun i hi => ?_⟩
  obtain ⟨g1, g2⟩ := h3 i hi
  exact ⟨by rw [upd_n (by omega)]; exact g1, by rw [upd_n (by omega)]; exact g2⟩
theorem IV.up (h : IV S) (hx : PT k x) (hk : k < 60 ∨ (100 ≤ k ∧ k < 200)) (hn : ¬ (11 ≤ k ∧ k < 16) ∧ k ≠ 17) : IV (upd S k x) :=
  ⟨h.1.up hx, h.2.1.up (by omega) (by omega) (by omega), h.2.2.1.upk (by omega) (by omega) (by omega), h.2.2.2.1.upk (by omega) (by omega) (by omega), h.2.2.2.2.upk (by omega) (by omega)⟩
theorem IV.WF (h : IV S) : WF 9999 S := h.1.WF h.2.1
theorem isPer6 (h : IV S) (hp : isPer S x = true) : ∃ p, p < 6 ∧ p < nP S ∧ x = nI p ∧ ix x = p := by
  obtain ⟨p, h1, rfl⟩ := isPer_ex hp
  have := h.WF.nP
  exact ⟨p, by omega, h1, rfl, ix_nI (by omega)⟩
theorem isIn2 (h : isIn x 0 1 = true) : ∃ c, c < 2 ∧ x = nI c ∧ ix x = c := by
  obtain ⟨c, hc, rfl⟩ := isIn_nI (n := 1) (by decide) h
  exact ⟨c, by omega, rfl, ix_nI (by omega)⟩
theorem IV.clock (h : IV S) {p : Nat} (hp : p < 6) : ∃ c, c < 2 ∧ S (30 + p) = nI c ∧ sFastOf S p = S c := by
  obtain ⟨c, hc, e⟩ := (h.1 (30 + p)).2.2.2.2.2.2.2.1 (by omega)
  refine ⟨c, hc, e, ?_⟩
  unfold sFastOf
  rw [e, nI_clamp (by omega)]
theorem IV.use (h : IV S) : IV (fUse S x y).2 := by
  unfold fUse
  split
  · rename_i c
    obtain ⟨c1, c2⟩ := Bool.and_eq_true_iff.mp c
    obtain ⟨p, h6, -, rfl, e⟩ := isPer6 h c1
    obtain ⟨c, hc, rfl, -⟩ := isIn2 c2
    rw [e]
    exact h.up (PT_c (by omega) hc) (by omega) (by omega)
  · exact h
theorem IV.believe (h : IV S) : IV (fBelieve S x y).2 := by
  unfold fBelieve
  split
  · rename_i c1
    obtain ⟨p, h6, -, rfl, e⟩ := isPer6 h c1
    split
    · rename_i c2
      rw [e]
      exact h.up (PT_in (by omega) c2) (by omega) (by omega)
    · exact h
  · exact h
theorem IV.row (h : IV S) : IV (fRow S x y z).2 := by
  unfold fRow
  split
  · rename_i c
    obtain ⟨c1, c2⟩ := Bool.and_eq_true_iff.mp c
    obtain ⟨p, h6, -, rfl, e⟩ := isPer6 h c1
    obtain ⟨j, hj, rfl⟩ := isIn_nI (n := 3) (by decide) c2
    split
    · rename_i c3
      obtain ⟨v, hv, rfl⟩ := isIn_nI (n := 9) (by decide) c3
      split
      · rw [e, ix_nI (by omega)]
        exact h.up (PT_v (by omega) hv) (by omega) (by omega)
      · exact h
    · exact h
  · exact h
theorem IV.hear (h : IV S) : IV (fHear S x).2 := by
  unfold fHear
  split
  · rename_i c1
    obtain ⟨p, h6, -, rfl, e⟩ := isPer6 h c1
    obtain ⟨c, hc, -, ef⟩ := h.clock h6
    rw [e, ef]
    exact h.up (PT_in (by omega) ((h.1 c).1 (by omega))) (by omega) (by omega)
  · exact h
theorem IV.tell (h : IV S) : IV (fTell S x y).2 := by
  unfold fTell
  split
  · rename_i c
    obtain ⟨c1, c2⟩ := Bool.and_eq_true_iff.mp c
    obtain ⟨p, h6, -, rfl, e⟩ := isPer6 h c1
    obtain ⟨o, o6, -, rfl, eo⟩ := isPer6 h c2
    split
    · exact h
    · split
      · rw [e, eo]
        exact h.up (PT_in (by omega) ((h.1 (5 + p)).1 (by omega))) (by omega) (by omega)
      · exact h
  · exact h
theorem IV.feed (h : IV S) : IV (fFeed S x).2 := by
  unfold fFeed
  split
  · rename_i c1
    obtain ⟨m, hm, rfl⟩ := isIn_nI (n := 127) (by decide) c1
    obtain ⟨e, he, e16⟩ := (h.1 16).2.2.2.2.2.2.2.2.2 rfl
    split
    · exact h
    · rename_i c2
      rw [e16] at c2 ⊢
      have he2 : e < 100 := by
        rcases Nat.lt_or_ge e 100 with q | q
        · exact q
        · exact absurd (show nI e = 100 by rw [show e = 100 by omega]; rfl) c2
      dsimp only
      rw [ix_nI (by omega), show nI e + 1 = nI (e + 1) from nI_add e 1]
      exact (h.up (PT_m (by omega) (by omega)) (by omega) (by omega)).up (PT_16 (by omega)) (by omega) (by omega)
  · exact h
end INV2
