section INV5
variable {S : Nat → Int32} {k : Nat} {x y z : Int32}
theorem PT_k {m : Nat} (h : 18 ≤ k ∧ k < 24) (hm : m < 7) : PT k (nI m) := ⟨fun q => absurd q (by omega), fun q => absurd q (by omega), fun q => absurd q (by omega), fun q => absurd q (by omega), fun q => absurd q (by omega), fun _ => ⟨m, hm, rfl⟩, fun q => absurd q (by omega), fun q => absurd q (by omega), fun q => absurd q (by omega), fun q => absurd q (by omega)⟩
theorem PT_11 {n : Nat} (hn : n ≤ 6) : PT 11 (nI n) := ⟨fun q => absurd q (by omega), fun q => absurd q (by omega), fun q => absurd q (by omega), fun q => absurd q (by omega), fun _ => ⟨n, hn, rfl⟩, fun q => absurd q (by omega), fun q => absurd q (by omega), fun q => absurd q (by omega), fun q => absurd q (by omega), fun q => absurd q (by omega)⟩
/-- rows of which only these numbers matter -/
theorem IV.cong {S' : Nat → Int32} (h : IV S) (hp : PTs S') (hn : nP S ≤ nP S') (he : ∀ j, 12 ≤ j → j < 915 → (j < 18 ∨ 60 ≤ j) → S' j = S j) : IV S' := by
  have hv : ∀ {a w M : Nat}, 12 ≤ a → a < 18 → 60 ≤ w → w + M ≤ 915 → okV S a w M → okV S' a w M := fun ha ha2 hw hw2 q => by
    obtain ⟨t, h1, h2, h3⟩ := q
    refine ⟨t, h1, by rw [he _ ha (by omega) (by omega)]; exact h2, fun i hi => ?_⟩
    obtain ⟨p, g1, g2⟩ := h3 i hi
    exact ⟨p, by omega, by rw [he _ (by omega) (by omega) (by omega)]; exact g2⟩
  refine ⟨hp, ?_, hv (by omega) (by omega) (by omega) (by omega) h.2.2.1, hv (by omega) (by omega) (by omega) (by omega) h.2.2.2.1, ?_⟩
  · obtain ⟨a, h1, h2, h3, h4⟩ := h.2.1
    refine ⟨a, h1, by rw [he _ (by omega) (by omega) (by omega)]; exact h2, by rw [he _ (by omega) (by omega) (by omega)]; exact h3, fun q hq => ?_⟩
    obtain ⟨g1, g2, m, g3, g4, g5⟩ := h4 q hq
    refine ⟨by rw [he _ (by omega) (by omega) (by omega)]; exact g1, by rw [he _ (by omega) (by omega) (by omega)]; exact g2, m, g3, by rw [he _ (by omega) (by omega) (by omega)]; exact g4, ?_⟩
    rw [show (List.range m).map (fun j => S' (215 + 140 * q + j)) = (List.range m).map (fun j => S (215 + 140 * q + j)) from List.map_congr_left (fun j hj => he _ (by omega) (by have := List.mem_range.mp hj; omega) (by omega))]
    exact g5
  · obtain ⟨t, h1, h2, h3⟩ := h.2.2.2.2
    refine ⟨t, h1, by rw [he _ (by omega) (by omega) (by omega)]; exact h2, fun i hi => ?_⟩
    obtain ⟨g1, g2⟩ := h3 i hi
    exact ⟨by rw [he _ (by omega) (by omega) (by omega)]; exact g1, by rw [he _ (by omega) (by omega) (by omega)]; exact g2⟩
theorem IV.undo {I : Nat → Int32} (h : IV S) (hI : ¬ x = 0 → IV I) : IV (fUndo S I x).2 := by
  unfold fUndo
  split
  · exact h
  · rename_i c
    have hI := hI c
    have e : ∀ j, j < 915 → cp 915 I S j = I j := fun j hj => if_pos hj
    refine hI.cong (fun j => ?_) (Nat.le_of_eq (by show nP I = nP (cp 915 I S); unfold nP; rw [e 11 (by omega)])) (fun j h1 h2 _ => e j h2)
    by_cases q : j < 915
    · show PT j (cp 915 I S j)
      rw [e j q]; exact hI.1 j
    · exact PT_no (by omega)
theorem PTs.zeros (h : PTs S) {a n : Nat} (ha : 36 ≤ a) (hn : a + n ≤ 60) : PTs (zr S a n) := fun j => by
  by_cases q : a ≤ j ∧ j < a + n
  · rw [show zr S a n j = nI 0 from if_pos q]
    exact PT_v (by omega) (by omega)
  · rw [zr_o q]; exact h j
theorem IV.person (h : IV S) : IV (fPerson S x y).2 := by
  unfold fPerson
  split
  · rename_i c1
    obtain ⟨k, hk, rfl⟩ := isIn_nI (n := 6) (by decide) c1
    split
    · rename_i c2
      obtain ⟨v, hv, rfl⟩ := isIn_nI (n := 9) (by decide) c2
      obtain ⟨n, hn, e11⟩ := (h.1 11).2.2.2.2.1 rfl
      split
      · exact h
      · rename_i c3
        have h6 : n < 6 := lt_of hn (by omega) (fun w => c3 (by rw [e11, w]; rfl))
        have hnP : nP S = n := nP_of hn e11
        dsimp only
        rw [hnP]
        have hp : PTs (newP S n (nI k) (nI v)) := by
          unfold newP
          exact (((((h.1.up (PT_k (by omega) (by omega))).up (PT_v (by omega) hv)).up (PT_c (c := 0) (by omega) (by omega))).up (PT_in (by omega) (by decide))).zeros (by omega) (by omega)).up (PT_11 (by omega))
        refine h.cong hp ?_ (fun j a1 a2 a3 => ?_)
        · rw [hnP, show nP (newP S n (nI k) (nI v)) = n + 1 from nP_of (by omega) upd_s]; omega
        · unfold newP
          rw [upd_n (by omega), zr_o (by omega), upd_n (by omega), upd_n (by omega), upd_n (by omega), upd_n (by omega)]
    · exact h
  · exact h
end INV5
