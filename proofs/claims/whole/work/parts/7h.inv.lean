section INV
variable {S : Nat → Int32} {k : Nat} {x : Int32}
/-- what a number of the row can be, by its place -/
def PT (j : Nat) (x : Int32) : Prop := (j < 2 ∨ (5 ≤ j ∧ j < 11) → isIn x (-60) 60 = true) ∧ (j = 2 → ∃ D, D ≤ 9999 ∧ x = nI D) ∧ (j = 3 → ∃ s, s ≤ 9 ∧ x = nI s) ∧ (j = 4 → -120 ≤ x.toInt ∧ x.toInt ≤ 120) ∧ (j = 11 → ∃ n, n ≤ 6 ∧ x = nI n) ∧ (18 ≤ j ∧ j < 24 → ∃ k, k < 7 ∧ x = nI k) ∧ ((24 ≤ j ∧ j < 30) ∨ (36 ≤ j ∧ j < 60) → ∃ v, v ≤ 9 ∧ x = nI v) ∧ (30 ≤ j ∧ j < 36 → ∃ c, c < 2 ∧ x = nI c) ∧ (100 ≤ j ∧ j < 200 → ∃ m, m < 128 ∧ x = nI m) ∧ (j = 16 → ∃ e, e ≤ 100 ∧ x = nI e)
/-- the houses -/
def HO (S : Nat → Int32) : Prop := ∃ a, a ≤ 5 ∧ S 12 = nI a ∧ (S 17 = -1 ∨ ∃ q, q < a ∧ S 17 = nI q) ∧ ∀ q, q < a → (∃ v, v < 100 ∧ S (200 + q) = nI v) ∧ (∃ v, v < 100 ∧ S (205 + q) = nI v) ∧ ∃ m, m ≤ 140 ∧ S (210 + q) = nI m ∧ okP 0 ((List.range m).map (fun j => S (215 + 140 * q + j)))
def PTs (S : Nat → Int32) : Prop := ∀ j, PT j (S j)
theorem PTs.up (h : PTs S) (hx : PT k x) : PTs (upd S k x) := fun j => by
  by_cases q : j = k
  · subst q; rw [upd_s]; exact hx
  · rw [upd_n q]; exact h j
theorem HO.up (h : HO S) (hk : k < 200) (h12 : k ≠ 12) (h17 : k ≠ 17) : HO (upd S k x) := by
  obtain ⟨a, h1, h2, h3, h4⟩ := h
  refine ⟨a, h1, by rw [upd_n (by omega)]; exact h2, by rw [upd_n (by omega)]; exact h3, fun q hq => ?_⟩
  obtain ⟨g1, g2, m, g3, g4, g5⟩ := h4 q hq
  refine ⟨by rw [upd_n (by omega)]; exact g1, by rw [upd_n (by omega)]; exact g2, m, g3, by rw [upd_n (by omega)]; exact g4, ?_⟩
  rw [show (List.range m).map (fun j => upd S k x (215 + 140 * q + j)) = (List.range m).map (fun j => S (215 + 140 * q + j)) from List.map_congr_left (fun j _ => upd_n (by omega))]
  exact g5
theorem HO.okH (h : HO S) : okH S := by
  obtain ⟨a, h1, h2, h3, h4⟩ := h
  rcases h3 with h3 | ⟨q, hq, h3⟩
  · exact Or.inl h3
  · obtain ⟨-, -, m, g3, g4, g5⟩ := h4 q hq
    exact Or.inr ⟨q, by omega, h3, m, g3, g4, g5⟩
theorem PTs.WF (h : PTs S) (hH : HO S) : WF 9999 S :=
  ⟨(h 11).2.2.2.2.1 rfl, fun p hp => (h (18 + p)).2.2.2.2.2.1 (by omega), fun p hp => (h (30 + p)).2.2.2.2.2.2.2.1 (by omega), (h 2).2.1 rfl, (h 3).2.2.1 rfl, hH.okH⟩
theorem PT_in (h : k < 2 ∨ (5 ≤ k ∧ k < 11)) (hx : isIn x (-60) 60 = true) : PT k x := ⟨fun _ => hx, fun q => absurd q (by omega), fun q => absurd q (by omega), fun q => absurd q (by omega), fun q => absurd q (by omega), fun q => absurd q (by omega), fun q => absurd q (by omega), fun q => absurd q (by omega), fun q => absurd q (by omega), fun q => absurd q (by omega)⟩
theorem PT_c {c : Nat} (h : 30 ≤ k ∧ k < 36) (hc : c < 2) : PT k (nI c) := ⟨fun q => absurd q (by omega), fun q => absurd q (by omega), fun q => absurd q (by omega), fun q => absurd q (by omega), fun q => absurd q (by omega), fun q => absurd q (by omega), fun q => absurd q (by omega), fun _ => ⟨c, hc, rfl⟩, fun q => absurd q (by omega), fun q => absurd q (by omega)⟩
theorem PT_v {v : Nat} (h : (24 ≤ k ∧ k < 30) ∨ (36 ≤ k ∧ k < 60)) (hv : v ≤ 9) : PT k (nI v) := ⟨fun q => absurd q (by omega), fun q => absurd q (by omega), fun q => absurd q (by omega), fun q => absurd q (by omega), fun q => absurd q (by omega), fun q => absurd q (by omega), fun _ => ⟨v, hv, rfl⟩, fun q => absurd q (by omega), fun q => absurd q (by omega), fun q => absurd q (by omega)⟩
theorem PT_m {m : Nat} (h : 100 ≤ k ∧ k < 200) (hm : m < 128) : PT k (nI m) := ⟨fun q => absurd q (by omega), fun q => absurd q (by omega), fun q => absurd q (by omega), fun q => absurd q (by omega), fun q => absurd q (by omega), fun q => absurd q (by omega), fun q => absurd q (by omega), fun q => absurd q (by omega), fun _ => ⟨m, hm, rfl⟩, fun q => absurd q (by omega)⟩
theorem PT_no (h : (12 ≤ k ∧ k < 16) ∨ k = 17 ∨ (60 ≤ k ∧ k < 100) ∨ 200 ≤ k) : PT k x := ⟨fun q => absurd q (by omega), fun q => absurd q (by omega), fun q => absurd q (by omega), fun q => absurd q (by omega), fun q => absurd q (by omega), fun q => absurd q (by omega), fun q => absurd q (by omega), fun q => absurd q (by omega), fun q => absurd q (by omega), fun q => absurd q (by omega)⟩
theorem PT_16 {e : Nat} (he : e ≤ 100) : PT 16 (nI e) := ⟨fun q => absurd q (by omega), fun q => absurd q (by omega), fun q => absurd q (by omega), fun q => absurd q (by omega), fun q => absurd q (by omega), fun q => absurd q (by omega), fun q => absurd q (by omega), fun q => absurd q (by omega), fun q => absurd q (by omega), fun _ => ⟨e, he, rfl⟩⟩
theorem S0_PT : PTs S0 := fun j => by
  by_cases q : j = 17
  · subst q; exact PT_no (by omega)
  · rw [S0_o q]
    exact ⟨fun _ => by decide, fun _ => ⟨0, by omega, rfl⟩, fun _ => ⟨0, by omega, rfl⟩, fun _ => by decide, fun _ => ⟨0, by omega, rfl⟩, fun _ => ⟨0, by omega, rfl⟩, fun _ => ⟨0, by omega, rfl⟩, fun _ => ⟨0, by omega, rfl⟩, fun _ => ⟨0, by omega, rfl⟩, fun _ => ⟨0, by omega, rfl⟩⟩
theorem S0_HO : HO S0 := ⟨0, by omega, S0_o (by omega), Or.inl upd_s, fun q hq => absurd hq (by omega)⟩
end INV
