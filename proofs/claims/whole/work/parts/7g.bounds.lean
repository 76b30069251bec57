section BND
variable {S : Nat → Int32}
theorem in60 {b : Int32} (h : isIn b (-60) 60 = true) : -60 ≤ b.toInt ∧ b.toInt ≤ 60 := by
  simp only [isIn, Bool.and_eq_true, decide_eq_true_eq] at h
  have c0 := Int32.le_iff_toInt_le.mp h.1
  have c1 := Int32.le_iff_toInt_le.mp h.2
  rw [show (-60 : Int32).toInt = -60 from by decide] at c0
  rw [show (60 : Int32).toInt = 60 from by decide] at c1
  exact ⟨c0, c1⟩
theorem in60_of {b : Int32} (h : -60 ≤ b.toInt ∧ b.toInt ≤ 60) : isIn b (-60) 60 = true := by
  simp only [isIn, Bool.and_eq_true, decide_eq_true_eq]
  refine ⟨Int32.le_iff_toInt_le.mpr ?_, Int32.le_iff_toInt_le.mpr ?_⟩
  · rw [show (-60 : Int32).toInt = -60 from by decide]; exact h.1
  · rw [show (60 : Int32).toInt = 60 from by decide]; exact h.2
theorem tdiv10 {x : Int} : (0 ≤ x → 0 ≤ x.tdiv 10 ∧ x.tdiv 10 * 10 ≤ x) ∧ (x ≤ 0 → x.tdiv 10 ≤ 0 ∧ x ≤ x.tdiv 10 * 10) := by
  refine ⟨fun h => ?_, fun h => ?_⟩
  · rw [Int.tdiv_eq_ediv_of_nonneg h]; omega
  · obtain ⟨y, hy, rfl⟩ : ∃ y : Int, 0 ≤ y ∧ x = -y := ⟨-x, by omega, by omega⟩
    rw [Int.neg_tdiv, Int.tdiv_eq_ediv_of_nonneg hy]; omega
/-- what one learns stays between what one believed and what the clock shows -/
theorem bel_in {b f : Int32} {v : Nat} (hb : isIn b (-60) 60 = true) (hf : isIn f (-60) 60 = true) (hv : v ≤ 9) : isIn (b + nI v * (f - b) / 10) (-60) 60 = true := by
  obtain ⟨b1, b2⟩ := in60 hb
  obtain ⟨f1, f2⟩ := in60 hf
  have e1 : (f - b).toInt = f.toInt - b.toInt := by
    rw [Int32.toInt_sub]; exact Int.bmod_eq_of_le (by omega) (by omega)
  generalize hw : f.toInt - b.toInt = w at e1
  have hvw : -1080 ≤ (v : Int) * w ∧ (v : Int) * w ≤ 1080 ∧ (0 ≤ w → 0 ≤ (v : Int) * w ∧ (v : Int) * w ≤ 9 * w) ∧ (w ≤ 0 → (v : Int) * w ≤ 0 ∧ 9 * w ≤ (v : Int) * w) := by
    have : v = 0 ∨ v = 1 ∨ v = 2 ∨ v = 3 ∨ v = 4 ∨ v = 5 ∨ v = 6 ∨ v = 7 ∨ v = 8 ∨ v = 9 := by omega
    rcases this with rfl | rfl | rfl | rfl | rfl | rfl | rfl | rfl | rfl | rfl <;> refine ⟨by omega, by omega, by omega, by omega⟩
  obtain ⟨v1, v2, v3, v4⟩ := hvw
  have e2 : (nI v * (f - b)).toInt = (v : Int) * w := by
    rw [Int32.toInt_mul, nI_toInt (by omega), e1]; exact Int.bmod_eq_of_le (by omega) (by omega)
  generalize (v : Int) * w = u at v1 v2 v3 v4 e2
  obtain ⟨t1, t2⟩ := tdiv10 (x := u)
  have e3 : (nI v * (f - b) / 10).toInt = u.tdiv 10 := by
    rw [Int32.toInt_div, e2, show (10 : Int32).toInt = 10 from by decide]
    refine Int.bmod_eq_of_le ?_ ?_
    · by_cases c : 0 ≤ u
      · have := t1 c; omega
      · have := t2 (by omega); omega
    · by_cases c : 0 ≤ u
      · have := t1 c; omega
      · have := t2 (by omega); omega
  apply in60_of
  have e4 : (b + nI v * (f - b) / 10).toInt = b.toInt + u.tdiv 10 := by
    rw [Int32.toInt_add, e3]
    refine Int.bmod_eq_of_le ?_ ?_
    · by_cases c : 0 ≤ u
      · have := t1 c; omega
      · have := t2 (by omega); omega
    · by_cases c : 0 ≤ u
      · have := t1 c; omega
      · have := t2 (by omega); omega
  rw [e4]
  by_cases c : 0 ≤ w
  · have := v3 c; have := t1 (by omega); omega
  · have := v4 (by omega); have := t2 (by omega); omega
end BND
