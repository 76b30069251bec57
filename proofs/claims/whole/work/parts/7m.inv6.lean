section INV6
variable {S : Nat → Int32} {α e : Nat}
theorem tell_val (X : WX) {c : Nat → Int32} (hC : ∀ j, ∃ m, m < 128 ∧ c j = nI m) {l : List Int32} {q : PSt} (h : ¬ (pTell c e l q).2.2.1 = true) : ∃ v, v < 100 ∧ (pTell c e l q).1 = nI v := by
  have hw : (pTell c e l q).2.2.1 = false := by simpa using h
  unfold pTell at hw ⊢
  rcases pFig_val (h := fun _ => some (iA X 100 c)) (X := X) (tx := 0) (a := 1) (c := c) (e := e) (q := pSpell c e l q) ⟨rfl, Or.inl (by omega), hC⟩ (pFig_f hw) with w | ⟨w, v, hv, hvv⟩
  · rw [w] at hw; cases hw
  · exact ⟨v, hv, hvv⟩
/-- a house under way: all but its own numbers are the row's -/
def GP (S : Nat → Int32) (α k e : Nat) (z : (Nat → Int32) × PSt) : Prop := RQ k e z.2 ∧ tape z.1 = tape S ∧ (∃ v, v < 100 ∧ z.1 (200 + α) = nI v) ∧ (∃ v, v < 100 ∧ z.1 (205 + α) = nI v) ∧ ∀ j, 200 ≤ j → j ≠ 200 + α → j ≠ 205 + α → j ≠ 210 + α → z.1 j = S j
theorem GP.clause (X : WX) (hC : ∀ j, ∃ m, m < 128 ∧ tape S j = nI m) {k : Nat} {Z : Nat → Int32} {q : PSt} (h : GP S α k e (Z, q)) (hα : α < 5) (hw : q.2.1 = false) : GP S α (k + 1) e (pClause α e (Z, q)) := by
  obtain ⟨h1, h2, h3, h4, h5⟩ := h
  have h2 : tape Z = tape S := h2
  have hC' : ∀ j, ∃ m, m < 128 ∧ tape Z j = nI m := by rw [h2]; exact hC
  refine ⟨RQ_clause X hC' h1 hw, tape_pClause.trans h2, ?_, ?_, ?_⟩
  · unfold pClause
    split
    · unfold pTellS; dsimp only
      split
      · exact h3
      · rw [upd_n (by omega)]; exact h3
    · split
      · unfold pTellS; dsimp only
        split
        · exact h3
        · rename_i c; rw [upd_s]; exact tell_val X hC' c
      · split
        · exact h3
        · split <;> exact h3
  · unfold pClause
    split
    · unfold pTellS; dsimp only
      split
      · exact h4
      · rename_i c; rw [upd_s]; exact tell_val X hC' c
    · split
      · unfold pTellS; dsimp only
        split
        · exact h4
        · rw [upd_n (by omega)]; exact h4
      · split
        · exact h4
        · split <;> exact h4
  · intro j a1 a2 a3 a4
    have h6 := h5 j a1 a2 a3 a4
    unfold pClause
    split
    · unfold pTellS; dsimp only
      split
      · exact h6
      · rw [upd_n (by omega)]; exact h6
    · split
      · unfold pTellS; dsimp only
        split
        · exact h6
        · rw [upd_n (by omega)]; exact h6
      · split
        · exact h6
        · split <;> exact h6
theorem RQ.le {k k' : Nat} {q : PSt} (h : RQ k e q) (hk : k ≤ k') : RQ k' e q := ⟨h.1, h.2.1, fun z => ⟨Nat.le_trans (h.2.2 z).1 hk, (h.2.2 z).2⟩⟩
theorem GP.pCl (X : WX) (hC : ∀ j, ∃ m, m < 128 ∧ tape S j = nI m) (hα : α < 5) : ∀ (n k : Nat) (z : (Nat → Int32) × PSt), GP S α k e z → GP S α (k + n) e (pCl α e n z)
  | 0, k, z, h => h
  | n + 1, k, z, h => by
    by_cases c : z.2.2.1 = false ∧ pHere (tape z.1) e z.2.1 = nI 59
    · rw [pCl_yes c]
      have hlt := pHere_lt c.2 (by decide)
      have h' : GP S α k e (z.1, (z.2.1 + 1, z.2.2)) := ⟨⟨hlt, by have := h.1.2.1; dsimp only at this ⊢; omega, h.1.2.2⟩, h.2⟩
      have := GP.pCl X hC hα n (k + 1) _ (h'.clause X hC hα c.1)
      rw [show k + (n + 1) = k + 1 + n by omega]
      exact this
    · rw [pCl_no c]
      exact ⟨h.1.le (by omega), h.2⟩
end INV6
