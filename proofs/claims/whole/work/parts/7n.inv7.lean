section INV7
variable {S : Nat → Int32} {α e : Nat}
theorem hS_GP (hα : α < 5) : GP S α 0 e (hS S α, (0, (false, []))) := by
  refine ⟨⟨Nat.zero_le _, Nat.le_refl _, fun _ => ⟨Nat.le_refl _, fun rest hr => hr⟩⟩, ?_, ⟨3, by omega, ?_⟩, ⟨1, by omega, ?_⟩, fun j a1 a2 a3 a4 => ?_⟩
  · funext j
    unfold tape
    by_cases z : j < 100
    · rw [if_pos z, if_pos z]; exact hS_lo (by omega) (by omega)
    · rw [if_neg z, if_neg z]
  · show hS S α (200 + α) = nI 3
    unfold hS; rw [upd_n (by omega), upd_n (by omega), upd_s]
  · show hS S α (205 + α) = nI 1
    unfold hS; rw [upd_n (by omega), upd_s]
  · show hS S α j = S j
    unfold hS; rw [upd_n a4, upd_n a3, upd_n a2, upd_n (by omega)]
theorem hEnd_GP (X : WX) (hC : ∀ j, ∃ m, m < 128 ∧ tape S j = nI m) (hα : α < 5) (hSa : S 12 = nI α) (he : e ≤ 100) (hSe : S 16 = nI e) : GP S α 10 e (hEnd S) := by
  unfold hEnd
  rw [hSa, hSe, ix_nI (by omega), ix_nI (by omega)]
  have h1 := (hS_GP (S := S) (e := e) hα).clause X hC hα rfl
  exact GP.pCl X hC hα 9 1 _ h1
theorem pS_steps {S' : Nat → Int32} {L : List Int32} : (List.range L.length).map (fun j => pS S' α L (215 + 140 * α + j)) = L := by
  refine List.ext_getElem (by simp) (fun i h1 h2 => ?_)
  simp only [List.getElem_map, List.getElem_range]
  unfold pS
  rw [if_pos (by omega), Nat.add_sub_cancel_left, List.getElem?_eq_getElem h2]
  rfl
theorem IV_tape (h : IV S) : ∀ j, ∃ m, m < 128 ∧ tape S j = nI m := fun j => by
  unfold tape
  by_cases z : j < 100
  · rw [if_pos z]; exact (h.1 (100 + j)).2.2.2.2.2.2.2.2.1 (by omega)
  · rw [if_neg z]; exact ⟨0, by omega, rfl⟩
theorem IV.house (X : WX) (h : IV S) : IV (fHouse S).2 := by
  obtain ⟨a, ha, hSa, h17, hH⟩ := id h.2.1
  obtain ⟨e, he, hSe⟩ := (h.1 16).2.2.2.2.2.2.2.2.2 rfl
  by_cases c5 : a = 5
  · have e1 : fHouse S = (-nI 4, S) := if_pos (by rw [hSa, c5])
    rw [e1]; exact h
  · have ha5 : a < 5 := by omega
    have hG := hEnd_GP X (IV_tape h) ha5 hSa he hSe
    obtain ⟨⟨S', ⟨s, w, L⟩⟩, hE⟩ : ∃ z, hEnd S = z := ⟨_, rfl⟩
    have l1 : ∀ j, j < 200 → j ≠ 16 → S' j = S j := fun j a1 a2 => by have := hEnd_lo (S := S) a1 a2; rw [hE] at this; exact this
    have l2 : S' 16 = nI 0 := by have := hEnd_16 (S := S); rw [hE] at this; exact this
    rw [hE] at hG
    obtain ⟨⟨r1, r2, r3⟩, -, g1, g2, g3⟩ := hG
    dsimp only at r1 r2 r3 g1 g2 g3
    have hp : PTs (pS S' a L) := fun j => by
      by_cases z : 200 ≤ j
      · exact PT_no (by omega)
      · rw [pS_lo (by omega)]
        by_cases z2 : j = 16
        · subst z2; rw [l2]; exact PT_16 (by omega)
        · rw [l1 j (by omega) z2]; exact h.1 j
    have old : ∀ q, q < a → (∃ v, v < 100 ∧ pS S' a L (200 + q) = nI v) ∧ (∃ v, v < 100 ∧ pS S' a L (205 + q) = nI v) ∧ ∃ m, m ≤ 140 ∧ pS S' a L (210 + q) = nI m ∧ okP 0 ((List.range m).map (fun j => pS S' a L (215 + 140 * q + j))) := fun q hq => by
      obtain ⟨k1, k2, m, k3, k4, k5⟩ := hH q hq
      refine ⟨by rw [pS_lo (by omega), g3 _ (by omega) (by omega) (by omega) (by omega)]; exact k1, by rw [pS_lo (by omega), g3 _ (by omega) (by omega) (by omega) (by omega)]; exact k2, m, k3, ?_, ?_⟩
      · unfold pS
        rw [if_neg (by omega), if_neg (by omega), g3 _ (by omega) (by omega) (by omega) (by omega)]; exact k4
      · rw [show (List.range m).map (fun j => pS S' a L (215 + 140 * q + j)) = (List.range m).map (fun j => S (215 + 140 * q + j)) from List.map_congr_left (fun j hj => by
          have := List.mem_range.mp hj
          unfold pS
          rw [if_neg (by omega), if_neg (by omega), g3 _ (by omega) (by omega) (by omega) (by omega)])]
        exact k5
    have lo : ∀ j, j < 200 → j ≠ 16 → pS S' a L j = S j := fun j a1 a2 => by rw [pS_lo (by omega), l1 j a1 a2]
    have hn : nP (pS S' a L) = nP S := by unfold nP; rw [lo 11 (by omega) (by omega)]
    have hv : ∀ {b u M : Nat}, 12 ≤ b → b < 16 → 60 ≤ u → u + M ≤ 100 → okV S b u M → okV (pS S' a L) b u M := fun k1 k2 k3 k4 q => by
      obtain ⟨t, t1, t2, t3⟩ := q
      refine ⟨t, t1, by rw [lo _ (by omega) (by omega)]; exact t2, fun i hi => ?_⟩
      obtain ⟨p, k5, k6⟩ := t3 i hi
      exact ⟨p, by rw [hn]; exact k5, by rw [lo _ (by omega) (by omega)]; exact k6⟩
    have hr : okR (pS S' a L) := by
      obtain ⟨t, t1, t2, t3⟩ := h.2.2.2.2
      refine ⟨t, t1, by rw [lo _ (by omega) (by omega)]; exact t2, fun i hi => ?_⟩
      obtain ⟨k1, k2⟩ := t3 i hi
      exact ⟨by rw [lo _ (by omega) (by omega)]; exact k1, by rw [lo _ (by omega) (by omega)]; exact k2⟩
    have v1 := hv (b := 13) (u := 60) (M := 6) (by omega) (by omega) (by omega) (by omega) h.2.2.1
    have v2 := hv (b := 15) (u := 84) (M := 8) (by omega) (by omega) (by omega) (by omega) h.2.2.2.1
    by_cases c : w = true ∨ ¬ s = e
    · rw [fHouse_f ha5 hSa hSe he hE c]
      show IV (pS S' a L)
      exact ⟨hp, ⟨a, ha, by rw [lo _ (by omega) (by omega)]; exact hSa, by rw [lo _ (by omega) (by omega)]; exact h17, old⟩, v1, v2, hr⟩
    · have hw0 : w = false := by
        cases w with
        | true => exact absurd (Or.inl rfl) c
        | false => rfl
      have hse : s = e := Classical.byContradiction (fun z => c (Or.inr z))
      subst hw0; subst hse
      rw [fHouse_t ha5 hSa hSe he hE, nI_add]
      show IV (upd (upd (pS S' a L) 12 (nI (a + 1))) 17 (nI a))
      have hq := (r3 rfl).2 [] rfl
      rw [List.append_nil] at hq
      refine ⟨(hp.up (PT_no (by omega))).up (PT_no (by omega)), ⟨a + 1, by omega, ?_, Or.inr ⟨a, by omega, upd_s⟩, fun q hq2 => ?_⟩, (v1.upk (by omega) (by omega) (by omega)).upk (by omega) (by omega) (by omega), (v2.upk (by omega) (by omega) (by omega)).upk (by omega) (by omega) (by omega), (hr.upk (by omega) (by omega)).upk (by omega) (by omega)⟩
      · show upd (upd (pS S' a L) 12 (nI (a + 1))) 17 (nI a) 12 = nI (a + 1)
        rw [upd_n (by omega), upd_s]
      · have hi : ∀ j, 200 ≤ j → upd (upd (pS S' a L) 12 (nI (a + 1))) 17 (nI a) j = pS S' a L j := fun j hj => by rw [upd_n (by omega), upd_n (by omega)]
        rw [hi _ (by omega), hi _ (by omega), hi _ (by omega)]
        have hm : ∀ m, (List.range m).map (fun j => upd (upd (pS S' a L) 12 (nI (a + 1))) 17 (nI a) (215 + 140 * q + j)) = (List.range m).map (fun j => pS S' a L (215 + 140 * q + j)) := fun m => List.map_congr_left (fun j _ => hi _ (by omega))
        by_cases qa : q = a
        · subst qa
          refine ⟨by rw [pS_lo (by omega)]; exact g1, by rw [pS_lo (by omega)]; exact g2, L.length, by omega, pS_m ha5, ?_⟩
          rw [hm, pS_steps]
          exact okQ_P hq
        · obtain ⟨k1, k2, m, k3, k4, k5⟩ := old q (by omega)
          exact ⟨k1, k2, m, k3, k4, by rw [hm]; exact k5⟩
end INV7
