section INV4
variable {S : Nat → Int32} {k : Nat} {x y z : Int32}
theorem okV_push {a w M t p : Nat} {l : Int32} (h : okV S a w M) (hS : S a = nI t) (ht : t < M) (hM : M ≤ 8) (ha : a < w) (hw : 12 ≤ a) (hp : p < nP S) : okV (upd (upd (upd S (w + t) (nI p)) (w + M + t) l) a (nI (t + 1))) a w M := by
  obtain ⟨t', h1, h2, h3⟩ := h
  have : t' = t := by
    have := h2.symm.trans hS
    exact (nI_eq (a := t') (b := t) (by omega) (by omega)).mp this
  subst this
  have hn : nP (upd (upd (upd S (w + t') (nI p)) (w + M + t') l) a (nI (t' + 1))) = nP S := by
    unfold nP
    rw [upd_n (by omega), upd_n (by omega), upd_n (by omega)]
  refine ⟨t' + 1, by omega, upd_s, fun i hi => ?_⟩
  rw [hn]
  by_cases q : i = t'
  · subst q
    exact ⟨p, hp, by rw [upd_n (by omega), upd_n (by omega), upd_s]⟩
  · obtain ⟨p', g1, g2⟩ := h3 i (by omega)
    exact ⟨p', g1, by rw [upd_n (by omega), upd_n (by omega), upd_n (by omega)]; exact g2⟩
theorem okV_nil {a w M : Nat} (hw : 12 ≤ a) : okV (upd S a 0) a w M := ⟨0, Nat.zero_le _, upd_s, fun i hi => absurd hi (by omega)⟩
theorem lt_of {t M : Nat} (ht : t ≤ M) (hM : M < 100) (h : ¬ nI t = nI M) : t < M := by
  rcases Nat.lt_or_ge t M with q | q
  · exact q
  · exact absurd (by rw [show t = M by omega]) h
theorem IV.see (h : IV S) : IV (fSee S x y).2 := by
  obtain ⟨h1, h2, h3, h4, h5⟩ := h
  unfold fSee
  split
  · exact ⟨h1.up (PT_no (by omega)), h2.up (by omega) (by omega) (by omega), okV_nil (by omega), h4.upk (by omega) (by omega) (by omega), h5.upk (by omega) (by omega)⟩
  · split
    · rename_i c1
      obtain ⟨p, h6, hp, rfl, e⟩ := isPer6 ⟨h1, h2, h3, h4, h5⟩ c1
      split
      · obtain ⟨t, t1, t2, -⟩ := id h3
        split
        · exact ⟨h1, h2, h3, h4, h5⟩
        · rename_i c3
          have ht : t < 6 := lt_of t1 (by omega) (fun w => c3 (by rw [t2, w]; rfl))
          dsimp only
          rw [t2, ix_nI (by omega), show nI t + 1 = nI (t + 1) from nI_add t 1]
          refine ⟨((h1.up (PT_no (by omega))).up (PT_no (by omega))).up (PT_no (by omega)), ((h2.up (by omega) (by omega) (by omega)).up (by omega) (by omega) (by omega)).up (by omega) (by omega) (by omega), okV_push (M := 6) h3 t2 ht (by omega) (by omega) (by omega) hp, ((h4.upk (by omega) (by omega) (by omega)).upk (by omega) (by omega) (by omega)).upk (by omega) (by omega) (by omega), ((h5.upk (by omega) (by omega)).upk (by omega) (by omega)).upk (by omega) (by omega)⟩
      · exact ⟨h1, h2, h3, h4, h5⟩
    · exact ⟨h1, h2, h3, h4, h5⟩
theorem IV.book (h : IV S) : IV (fBook S x y).2 := by
  obtain ⟨h1, h2, h3, h4, h5⟩ := h
  unfold fBook
  split
  · exact ⟨h1.up (PT_no (by omega)), h2.up (by omega) (by omega) (by omega), h3.upk (by omega) (by omega) (by omega), okV_nil (by omega), h5.upk (by omega) (by omega)⟩
  · split
    · rename_i c1
      obtain ⟨p, h6, hp, rfl, e⟩ := isPer6 ⟨h1, h2, h3, h4, h5⟩ c1
      split
      · obtain ⟨t, t1, t2, -⟩ := id h4
        split
        · exact ⟨h1, h2, h3, h4, h5⟩
        · rename_i c3
          have ht : t < 8 := lt_of t1 (by omega) (fun w => c3 (by rw [t2, w]; rfl))
          dsimp only
          rw [t2, ix_nI (by omega), show nI t + 1 = nI (t + 1) from nI_add t 1]
          refine ⟨((h1.up (PT_no (by omega))).up (PT_no (by omega))).up (PT_no (by omega)), ((h2.up (by omega) (by omega) (by omega)).up (by omega) (by omega) (by omega)).up (by omega) (by omega) (by omega), ((h3.upk (by omega) (by omega) (by omega)).upk (by omega) (by omega) (by omega)).upk (by omega) (by omega) (by omega), okV_push (M := 8) h4 t2 ht (by omega) (by omega) (by omega) hp, ((h5.upk (by omega) (by omega)).upk (by omega) (by omega)).upk (by omega) (by omega)⟩
      · exact ⟨h1, h2, h3, h4, h5⟩
    · exact ⟨h1, h2, h3, h4, h5⟩
theorem in19 (h : isIn x 1 9 = true) : ∃ n, n ≤ 9 ∧ x = nI n := by
  refine isIn_nI (n := 9) (M := 9) (by decide) ?_
  simp only [isIn, Bool.and_eq_true, decide_eq_true_eq] at h ⊢
  exact ⟨Int32.le_trans (by decide) h.1, h.2⟩
theorem IV.rule (h : IV S) : IV (fRule S x y z).2 := by
  obtain ⟨h1, h2, h3, h4, h5⟩ := h
  unfold fRule
  split
  · exact ⟨h1.up (PT_no (by omega)), h2.up (by omega) (by omega) (by omega), h3.upk (by omega) (by omega) (by omega), h4.upk (by omega) (by omega) (by omega), ⟨0, by omega, show upd S 14 0 14 = nI 0 from upd_s, fun i hi => absurd hi (by omega)⟩⟩
  · split
    · rename_i c1
      obtain ⟨c, hc, rfl, -⟩ := isIn2 c1
      split
      · rename_i c2
        obtain ⟨-, c4⟩ := Bool.and_eq_true_iff.mp c2
        obtain ⟨n, hn, rfl⟩ := in19 c4
        obtain ⟨t, t1, t2, t3⟩ := id h5
        split
        · exact ⟨h1, h2, h3, h4, h5⟩
        · rename_i c3
          have ht : t < 4 := lt_of t1 (by omega) (fun w => c3 (by rw [t2, w]; rfl))
          dsimp only
          rw [t2, ix_nI (by omega), show nI t + 1 = nI (t + 1) from nI_add t 1]
          refine ⟨(((h1.up (PT_no (by omega))).up (PT_no (by omega))).up (PT_no (by omega))).up (PT_no (by omega)), (((h2.up (by omega) (by omega) (by omega)).up (by omega) (by omega) (by omega)).up (by omega) (by omega) (by omega)).up (by omega) (by omega) (by omega), (((h3.upk (by omega) (by omega) (by omega)).upk (by omega) (by omega) (by omega)).upk (by omega) (by omega) (by omega)).upk (by omega) (by omega) (by omega), (((h4.upk (by omega) (by omega) (by omega)).upk (by omega) (by omega) (by omega)).upk (by omega) (by omega) (by omega)).upk (by omega) (by omega) (by omega), t + 1, by omega, upd_s, fun i hi => ?_⟩
          by_cases q : i = t
          · subst q
            exact ⟨⟨c, hc, by rw [upd_n (by omega), upd_n (by omega), upd_n (by omega), upd_s]⟩, n, hn, by rw [upd_n (by omega), upd_s]⟩
          · obtain ⟨g1, g2⟩ := t3 i (by omega)
            exact ⟨by rw [upd_n (by omega), upd_n (by omega), upd_n (by omega), upd_n (by omega)]; exact g1, by rw [upd_n (by omega), upd_n (by omega), upd_n (by omega), upd_n (by omega)]; exact g2⟩
      · exact ⟨h1, h2, h3, h4, h5⟩
    · exact ⟨h1, h2, h3, h4, h5⟩
end INV4
