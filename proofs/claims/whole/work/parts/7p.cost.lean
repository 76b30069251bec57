section CST
theorem hdE_bd : ∀ {l : List Int32} {n : Nat}, okQ n l → (¬ n = 0 ∨ ¬ l = []) → -99 ≤ (minu (hdE l)).toInt ∧ (minu (hdE l)).toInt ≤ 99
  | [], n, h, q => by
    have h : n = 0 := h
    rcases q with q | q
    · exact absurd h q
    · exact absurd rfl q
  | s :: t, n, h, _ => by
    rcases h with ⟨c, rfl, h2, h3, h4, h5, h6⟩ | ⟨rfl, h2, h3⟩ | ⟨h1, h2, h3⟩ | ⟨c, h1, h2, h3, h4⟩
    · rw [show hdE (nI c :: t) = hdE t from if_pos (stp_t h2).2]
      exact hdE_bd h6 (Or.inl (by omega))
    · rw [show hdE (-1 :: t) = hdE t from if_pos (by decide)]
      exact hdE_bd h3 (Or.inl (by omega))
    · rw [show hdE (s :: t) = hdE t from if_pos (by rcases h1 with rfl | rfl <;> decide)]
      exact hdE_bd h3 (Or.inl (by omega))
    · obtain ⟨⟨m1, m2⟩, m3, m4⟩ := end_val h1
      have b1 : (nI c).toInt = c := nI_toInt (by omega)
      have b2 : -99 ≤ (-nI c).toInt ∧ (-nI c).toInt ≤ 99 := (by decide +kernel : ∀ v, v < 100 → -99 ≤ (-nI v).toInt ∧ (-nI v).toInt ≤ 99) c h1
      rcases h2 with rfl | rfl
      · rw [show hdE ((-10 - nI c : Int32) :: t) = -nI 10 - nI c from if_neg m1, m2]
        exact b2
      · rw [show hdE ((-200 - nI c : Int32) :: t) = -nI 200 - nI c from if_neg m3, m4, b1]
        omega
/-- what a house comes to -/
theorem evalR_bd {e : Nat → Int32} : ∀ (n : Nat) {L : List Int32} {sum : Int32} {B : Int}, okQ 0 L → (cE 0 L).length ≤ n → 0 ≤ B → B + 99 * (n : Int) ≤ 100000 → -B ≤ sum.toInt → sum.toInt ≤ B → -(B + 99 * n) ≤ (evalR e L [] sum).toInt ∧ (evalR e L [] sum).toInt ≤ B + 99 * n
  | n, [], sum, B, h, h1, h2, h3, h4, h5 => by
    show -(B + 99 * n) ≤ sum.toInt ∧ sum.toInt ≤ B + 99 * n
    omega
  | 0, s :: t, sum, B, h, h1, h2, h3, h4, h5 => by
    have := cE_rst (k := 0) h (Or.inr (List.cons_ne_nil s t))
    rw [this] at h1
    simp at h1
  | n + 1, s :: t, sum, B, h, h1, h2, h3, h4, h5 => by
    have hne : ¬ (s :: t) = [] := List.cons_ne_nil s t
    have hc := cE_rst (k := 0) h (Or.inr hne)
    rw [hc, List.length_cons, cE_len] at h1
    obtain ⟨b1, b2⟩ := hdE_bd h (Or.inr hne)
    rw [evalR_tops (st := []) h]
    have hs : -(B + 99) ≤ (if tops e (s :: t) [] then sum + minu (hdE (s :: t)) else sum).toInt ∧ (if tops e (s :: t) [] then sum + minu (hdE (s :: t)) else sum).toInt ≤ B + 99 := by
      split
      · rw [Int32.toInt_add, Int.bmod_eq_of_le (by omega) (by omega)]; omega
      · omega
    have hl : (cE 0 (rst (s :: t))).length ≤ n := by rw [cE_len]; omega
    have h9 := evalR_bd (e := e) n (B := B + 99) (okQ_rst h) hl (by omega) (by omega) hs.1 hs.2
    omega
end CST
