section INV3
variable {S : Nat → Int32} {k : Nat} {x y z : Int32}
theorem PT_4 (h : -120 ≤ x.toInt ∧ x.toInt ≤ 120) : PT 4 x := ⟨fun q => absurd q (by omega), fun q => absurd q (by omega), fun q => absurd q (by omega), fun _ => h, fun q => absurd q (by omega), fun q => absurd q (by omega), fun q => absurd q (by omega), fun q => absurd q (by omega), fun q => absurd q (by omega), fun q => absurd q (by omega)⟩
theorem PT_3 {s : Nat} (h : s ≤ 9) : PT 3 (nI s) := ⟨fun q => absurd q (by omega), fun q => absurd q (by omega), fun _ => ⟨s, h, rfl⟩, fun q => absurd q (by omega), fun q => absurd q (by omega), fun q => absurd q (by omega), fun q => absurd q (by omega), fun q => absurd q (by omega), fun q => absurd q (by omega), fun q => absurd q (by omega)⟩
theorem PT_2 {D : Nat} (h : D ≤ 9999) : PT 2 (nI D) := ⟨fun q => absurd q (by omega), fun _ => ⟨D, h, rfl⟩, fun q => absurd q (by omega), fun q => absurd q (by omega), fun q => absurd q (by omega), fun q => absurd q (by omega), fun q => absurd q (by omega), fun q => absurd q (by omega), fun q => absurd q (by omega), fun q => absurd q (by omega)⟩
theorem sub_in {f g : Int32} (hf : isIn f (-60) 60 = true) (hg : isIn g (-60) 60 = true) : -120 ≤ (f - g).toInt ∧ (f - g).toInt ≤ 120 := by
  obtain ⟨f1, f2⟩ := in60 hf
  obtain ⟨g1, g2⟩ := in60 hg
  have e1 : (f - g).toInt = f.toInt - g.toInt := by
    rw [Int32.toInt_sub]; exact Int.bmod_eq_of_le (by omega) (by omega)
  rw [e1]; omega
theorem IV.sset (h : IV S) {c : Nat} (hc : c < 2) (hx : isIn x (-60) 60 = true) : IV (sSet S c x) := by
  unfold sSet
  exact ((h.up (PT_4 (sub_in hx ((h.1 c).1 (by omega)))) (by omega) (by omega)).up (PT_in (by omega) hx) (by omega) (by omega)).up (PT_3 (s := 0) (by omega)) (by omega) (by omega)
theorem IV.set (h : IV S) : IV (fSet S x y).2 := by
  unfold fSet
  split
  · rename_i c1
    obtain ⟨c, hc, rfl, e⟩ := isIn2 c1
    split
    · rename_i c2
      rw [e]
      exact h.sset hc c2
    · exact h
  · exact h
/-- rows that agree but for the day's numbers -/
theorem IV.ext {S' : Nat → Int32} (h : IV S) (hp : PTs S') (he : ∀ j, 11 ≤ j → S' j = S j) : IV S' := by
  have hn : nP S' = nP S := by unfold nP; rw [he 11 (by omega)]
  have hv : ∀ {a w M : Nat}, 11 ≤ a → 11 ≤ w → okV S a w M → okV S' a w M := fun ha hw q => by
    obtain ⟨t, h1, h2, h3⟩ := q
    refine ⟨t, h1, by rw [he _ ha]; exact h2, fun i hi => ?_⟩
    obtain ⟨p, g1, g2⟩ := h3 i hi
    exact ⟨p, by rw [hn]; exact g1, by rw [he _ (by omega)]; exact g2⟩
  refine ⟨hp, ?_, hv (by omega) (by omega) h.2.2.1, hv (by omega) (by omega) h.2.2.2.1, ?_⟩
  · obtain ⟨a, h1, h2, h3, h4⟩ := h.2.1
    refine ⟨a, h1, by rw [he _ (by omega)]; exact h2, by rw [he _ (by omega)]; exact h3, fun q hq => ?_⟩
    obtain ⟨g1, g2, m, g3, g4, g5⟩ := h4 q hq
    refine ⟨by rw [he _ (by omega)]; exact g1, by rw [he _ (by omega)]; exact g2, m, g3, by rw [he _ (by omega)]; exact g4, ?_⟩
    rw [show (List.range m).map (fun j => S' (215 + 140 * q + j)) = (List.range m).map (fun j => S (215 + 140 * q + j)) from List.map_congr_left (fun j _ => he _ (by omega))]
    exact g5
  · obtain ⟨t, h1, h2, h3⟩ := h.2.2.2.2
    refine ⟨t, h1, by rw [he _ (by omega)]; exact h2, fun i hi => ?_⟩
    obtain ⟨g1, g2⟩ := h3 i hi
    exact ⟨by rw [he _ (by omega)]; exact g1, by rw [he _ (by omega)]; exact g2⟩
theorem sBel_in (h : IV S) {p : Nat} (hp : p < 6) : isIn (sBel S p) (-60) 60 = true := by
  unfold sBel
  have hb := (h.1 (5 + p)).1 (by omega)
  split
  · obtain ⟨v, hv, e⟩ := (h.1 (24 + p)).2.2.2.2.2.2.1 (by omega)
    obtain ⟨c, hc, -, ef⟩ := h.clock hp
    rw [e, ef]
    exact bel_in hb ((h.1 c).1 (by omega)) hv
  · exact hb
/-- one day on, but for the date -/
theorem goes_PT (h : IV S) {j : Nat} (hj : j ≠ 2) : PT j (sGoes S j) := by
  unfold sGoes
  rw [if_neg hj]
  by_cases q : j = 3
  · subst q
    rw [if_pos rfl]
    obtain ⟨s, hs, e⟩ := (h.1 3).2.2.1 rfl
    rw [e]
    by_cases c : s < 9
    · rw [if_pos (show nI s < 9 from (nI_ltI (b := 9) (by omega) (by omega)).mpr c), show nI s + 1 = nI (s + 1) from nI_add s 1]
      exact PT_3 (by omega)
    · rw [if_neg (show ¬ nI s < 9 from fun z => c ((nI_ltI (b := 9) (by omega) (by omega)).mp z)), Int32.add_zero]
      exact PT_3 hs
  · rw [if_neg q]
    unfold belS
    have := h.WF.nP
    by_cases c : 5 ≤ j ∧ j < 5 + nP S
    · rw [if_pos c]
      exact PT_in (by omega) (sBel_in h (by omega))
    · rw [if_neg c]; exact h.1 j
theorem goes_hi {j : Nat} (h : IV S) (hj : 11 ≤ j) : sGoes S j = S j := by
  have := h.WF.nP
  unfold sGoes belS
  rw [if_neg (by omega), if_neg (by omega), if_neg (by omega)]
theorem IV.day (h : IV S) : IV (fDay S).2 := by
  unfold fDay
  split
  · exact h
  · rename_i c
    obtain ⟨D, hD, e⟩ := (h.1 2).2.1 rfl
    have hD2 : D < 9999 := by
      rcases Nat.lt_or_ge D 9999 with q | q
      · exact q
      · exact absurd (show S 2 = 9999 by rw [e, show D = 9999 by omega]; rfl) c
    refine h.ext (fun j => ?_) (fun j hj => goes_hi h hj)
    by_cases q : j = 2
    · subst q
      show PT 2 (S 2 + 1)
      rw [e, show nI D + 1 = nI (D + 1) from nI_add D 1]
      exact PT_2 (by omega)
    · exact goes_PT h q
end INV3
