section LAW3
variable {X : WX} {P : Nat → Option PD} {Q : Nat → Option HDs} {dh : HM} {st : Nat → SR} {nt : Nat → Nat → Int32} {t : Nat × (Nat → Int32)} {im : Int32} {S : Nat → Int32} {w : (Nat → Option Nat) × Nat} {i I F B T : Nat → Int32} {r : Nat → Nat → Int32} {nx k : Nat} {x y z : Int32} {H : HM}
theorem fAct_lt {f : Nat → Int32} : (fAct S f x y z).2.1 < 1000 := by
  unfold fAct
  split
  · split
    · exact Nat.lt_of_le_of_lt aLooks_le (by dsimp only; omega)
    · split
      · exact Nat.lt_of_le_of_lt aGoes_le (by dsimp only; omega)
      · exact Nat.lt_of_le_of_lt aTells_le (by dsimp only; omega)
  · dsimp only; omega
theorem L_act (h : LI X H nx) : CALL X M_FC_act 1000 (.ref (bA X) :: [.int x, .int y, .int z]) H (BK2 X Value.int M_Mod_act [.int x, .int y, .int z] nx) := by
  obtain ⟨P, Q, dh, st, nt, t, im, S, w, i, I, F, B, T, r, rfl, hC⟩ := h
  obtain ⟨m, hm, e11⟩ := hC.iv.e11
  rw [MH_CS]
  refine u_act (by omega) hC.cx ⟨_, rfl, ?_, ?_⟩
  · rw [← MH_CS]; exact MH_on
  · rw [← MH_CS]
    obtain ⟨c1, c2, c3, c4, c5, c6, c7, c8⟩ := id hC
    refine t_act (by omega) hm e11 hC.iv.e18 (fun i' r' hi h20 h11 => ⟨by rw [c8], P, Q, dh, st, nt, (fAct S t.2 x y z).2, im, S, w, i', I, F, B, T, r', rfl, c1, c2, c3, fAct_lt, (hi 4 (by omega)).trans c5, (hi 12 (by omega)).trans c6, ?_, ?_⟩)
    · rw [h20, c8]
    · rw [h11, c8]
/-- rows that agree in the house they tell of -/
theorem SK.cong {F : Nat → Int32} (h : IV S) (hS : SK P Q (S, w)) (h11 : F 11 = S 11) (hk : ∀ j, 17 ≤ j → j < 30 → F j = S j) (hh : ∀ a q, a ≤ 5 → S 12 = nI a → q < a → S 17 = nI q → F (200 + q) = S (200 + q) ∧ F (205 + q) = S (205 + q) ∧ F (210 + q) = S (210 + q) ∧ ∀ j, j < 140 → F (215 + 140 * q + j) = S (215 + 140 * q + j)) : SK P Q (F, w) := by
  have hn : nP F = nP S := by unfold nP; rw [h11]
  have h17 : F 17 = S 17 := hk 17 (by omega) (by omega)
  have ho : hold F = hold S := by unfold hold; rw [h17]
  refine ⟨fun p h6 => ?_, ?_⟩
  · obtain ⟨a, q, e1, e2, e3⟩ := hS.1 p h6
    refine ⟨a, q, e1, e2, fun g => ?_⟩
    have g : p < nP F := g
    have := e3 (by show p < nP S; omega)
    rw [this]
    show _ = (ix (F (18 + p)), (p, F (24 + p)))
    rw [hk (18 + p) (by omega) (by omega), hk (24 + p) (by omega) (by omega)]
  · have e := hS.2
    have e : Q w.2 = some (sTells S 200 3, (sTells S 205 1, progS S)) := e
    show Q w.2 = some (sTells F 200 3, (sTells F 205 1, progS F))
    rw [e]
    obtain ⟨a, ha, h12, h17', h4⟩ := h.2.1
    rcases h17' with z | ⟨q, hq, z⟩
    · have e1 : ∀ u nn, sTells F u nn = sTells S u nn := fun u nn => by unfold sTells; rw [h17, if_pos z, if_pos z]
      have e2 : progS F = progS S := by unfold progS; rw [h17, if_pos z, if_pos z]
      rw [e1, e1, e2]
    · obtain ⟨k1, k2, k3, k4⟩ := hh a q ha h12 hq z
      obtain ⟨-, -, m, m1, m2, -⟩ := h4 q hq
      have hq' : hold S = q := by unfold hold; rw [z, nI_clamp (by omega)]
      have e1 : sTells F 200 3 = sTells S 200 3 := by unfold sTells; rw [h17, ho, hq', k1]
      have e2 : sTells F 205 1 = sTells S 205 1 := by unfold sTells; rw [h17, ho, hq', k2]
      have e3 : progS F = progS S := by
        unfold progS
        rw [h17, ho, hq', k3]
        split
        · rfl
        · refine List.map_congr_left (fun j hj => k4 j ?_)
          have := List.mem_range.mp hj
          rw [m2, nI_clamp (by omega)] at this
          omega
      rw [e1, e2, e3]
theorem cp_in {I : Nat → Int32} {j : Nat} (hj : j < 915) : cp 915 S I j = S j := if_pos hj
theorem SK.cp {I : Nat → Int32} (h : IV S) (hS : SK P Q (S, w)) : SK P Q (cp 915 S I, w) := hS.cong h (cp_in (by omega)) (fun j a1 a2 => cp_in (by omega)) (fun a q a1 a2 a3 a4 => ⟨cp_in (by omega), cp_in (by omega), cp_in (by omega), fun j hj => cp_in (by omega)⟩)
theorem IV.cp {I : Nat → Int32} (h : IV S) : IV (cp 915 S I) := by
  refine h.cong (fun j => ?_) (Nat.le_of_eq (by show nP S = nP (fun j => if j < 915 then S j else I j); exact congrArg Int32.toNatClampNeg (if_pos (by omega)).symm)) (fun j h1 h2 _ => cp_in h2)
  by_cases q : j < 915
  · rw [cp_in q]; exact h.1 j
  · exact PT_no (by omega)
theorem CS_row {S2 : Nat → Int32} (h : ∀ j, j < 915 → S j = S2 j) : CS X dh st nt t im S w = CS X dh st nt t im S2 w := by
  unfold CS
  rw [CH_st (S := S) (S' := S2) (by omega) (fun j a1 => h j (by omega)) (fun j a1 a2 => h j (by omega)), CH_nt (S := S) (S' := S2) (by omega) (fun j a1 a2 => h j (by omega)) (fun j a1 a2 => h j (by omega))]
theorem CS_im {S2 : Nat → Int32} {nt' : Nat → Nat → Int32} (h : ∀ j, j < 915 → S j = S2 j) : CS X dh (va_up st 3 (S, w)) (va_up nt' 1 S) t im S w = CS X dh (va_up st 3 (S2, w)) (va_up nt' 1 S2) t im S w := by
  unfold CS
  rw [vuC (i := 3) (j := 0) (by omega), vuC (i := 1) (j := 0) (by omega), CH_st (S := S) (S' := S2) (k := 3) (by omega) (fun j a1 => h j (by omega)) (fun j a1 a2 => h j (by omega)), CH_nt (S := S) (S' := S2) (k := 1) (by omega) (fun j a1 a2 => h j (by omega)) (fun j a1 a2 => h j (by omega)), vuC (i := 0) (j := 3) (by omega), vuC (i := 0) (j := 1) (by omega)]
theorem L_image (h : LI X H nx) : CALL X M_FC_image 1000 (.ref (bA X) :: []) H (BK2 X Value.int M_Mod_image [] nx) := by
  obtain ⟨P, Q, dh, st, nt, t, im, S, w, i, I, F, B, T, r, rfl, hC⟩ := h
  rw [MH_CS]
  obtain ⟨c1, ⟨c21, c22, c23⟩, c3, c4, c5, c6, c7, c8⟩ := id hC
  refine u_image (by omega) hC.cx c23 ⟨_, rfl, ?_, ?_⟩
  · rw [← MH_CS]; exact MH_on
  · rw [← MH_CS, CS_im (S2 := cp 915 S I) (fun j hj => (cp_in hj).symm)]
    refine t_image (by omega) ⟨rfl, P, Q, dh, va_up st 3 (cp 915 S I, w), va_up nt 1 (cp 915 S I), t, nI 1, S, w, upd i 4 (nI 1), cp 915 S I, F, B, T, r, rfl, c1, ⟨?_, ?_, ?_⟩, Or.inr ⟨rfl, hC.iv.cp, w, c1.2.2.2.1.cp hC.iv, c1.2.2.2.2, vuS, vuS⟩, c4, upd_s, ?_, ?_, c8⟩
    · rw [vuN (by omega)]; exact c21
    · rw [vuN (by omega)]; exact c22
    · rw [vuS]; exact c1.2.2.2.2
    · rw [upd_n (by omega)]; exact c6
    · rw [upd_n (by omega)]; exact c7
theorem L_undo (h : LI X H nx) : CALL X M_FC_undo 1000 (.ref (bA X) :: []) H (BK2 X Value.int M_Mod_undo [] nx) := by
  obtain ⟨P, Q, dh, st, nt, t, im, S, w, i, I, F, B, T, r, rfl, hC⟩ := h
  rw [MH_CS]
  obtain ⟨c1, c2, c3, c4, c5, c6, c7, c8⟩ := id hC
  rcases id c3 with z | ⟨z, hI, wI, k1, k2, k3, k4⟩
  · have e : fUndo S I (i 4) = (-3, S) := if_pos (c5.trans z)
    refine u_undo (I := I) (wI := w) (by omega) hC.cx (Or.inl z) (fun _ => ⟨_, rfl, ?_, ?_⟩) (fun q => absurd (z.symm.trans q) (by decide))
    · rw [← MH_CS]; exact MH_on
    · rw [← MH_CS]
      refine t_undo (by omega) ⟨by rw [e], P, Q, dh, st, nt, t, im, S, w, i, I, F, B, T, r, by rw [e], c1, c2, c3, c4, c5, c6, c7, c8⟩
  · have e : fUndo S I (i 4) = (I 11, cp 915 I S) := if_neg (by rw [c5, z]; decide)
    refine u_undo (I := I) (wI := wI) (by omega) hC.cx (Or.inr ⟨z, k1, k2, k3, k4⟩) (fun q => absurd (z.symm.trans q) (by decide)) (fun _ => ⟨_, rfl, ?_, ?_⟩)
    · rw [← MH_CS]; exact MH_on
    · rw [← MH_CS, CS_row (S2 := cp 915 I S) (fun j hj => (cp_in hj).symm)]
      refine t_undo (by omega) ⟨by rw [e], P, Q, dh, st, nt, t, im, cp 915 I S, wI, i, I, F, B, T, r, by rw [e], ⟨c1.1, c1.2.1, hI.cp, k1.cp hI, k2⟩, c2, c3, c4, c5, c6, c7, c8⟩
theorem after2 {dh' : HM} {st' : Nat → SR} {S' Z : Nat → Int32} {w' : (Nat → Option Nat) × Nat} {nt' : Nat → Nat → Int32} {t' : Nat × (Nat → Int32)} {im' : Int32} (hF : ∀ j, j ≤ 11 → dh' (mB X + j) = MH X dh i Z I F B T r (mB X + j)) : CS X dh' st' nt' t' im' S' w' = MH X (CS X dh' st' nt' t' im' S' w') i Z I F B T r := by
  rw [MH_CS, ← MH_keep (dh := dh) hF]
theorem L_person (h : LI X H nx) : CALLA X M_FC_person 1000 2 144 (.ref (bA X) :: [.int x, .int y]) H nx (fun rv h1 nx' => BK2 X Value.int M_Mod_person [.int x, .int y] nx' rv h1) := by
  obtain ⟨P, Q, dh, st, nt, t, im, S, w, i, I, F, B, T, r, rfl, hC⟩ := h
  obtain ⟨m, hm, e11⟩ := hC.iv.e11
  rw [MH_CS]
  obtain ⟨⟨c11, c12, c13, c14, c15⟩, c2, c3, c4, c5, c6, c7, c8⟩ := id hC
  refine u_person (by omega) hC.cx c12 (fun e => ⟨_, rfl, ?_, ?_⟩) (fun k v n a hk hv hn ha hnP e d1 d2 d3 d4 d5 => ⟨_, rfl, ?_, ?_⟩)
  · rw [← MH_CS]; exact MH_on
  · rw [← MH_CS]
    exact t_person (by omega) hm e11 ⟨rfl, P, Q, dh, st, nt, t, im, S, w, i, I, F, B, T, r, by rw [e], hC⟩
  · have h65 := c12.1
    rw [after2 (dh := dh) (i := i) (Z := S) (I := I) (F := F) (B := B) (T := T) (r := r) (fun j hj => PN0_o (by unfold bA at h65; unfold mB; omega))]; exact MH_on
  · have h65 := c12.1
    rw [after2 (dh := dh) (i := i) (Z := S) (I := I) (F := F) (B := B) (T := T) (r := r) (fun j hj => PN0_o (by unfold bA at h65; unfold mB; omega))]
    refine t_person (by omega) hm e11 ⟨by rw [e], vP P a (k, (n, nI v)), Q, PN0 X (MH X dh i S I F B T r) a k n (nI v), st, nt, t, im, newP S n (nI k) (nI v), (va_up w.1 n (some a), w.2), i, I, F, B, T, r, by rw [e], ⟨d1, d2, ?_, d4, d5⟩, c2, ?_, c4, c5, c6, c7, c8⟩
    · have := c13.person (x := x) (y := y)
      rw [e] at this
      exact this
    · rcases c3 with z | ⟨z, hI, wI, k1, k2, k3, k4⟩
      · exact Or.inl z
      · exact Or.inr ⟨z, hI, wI, k1.more d3 PE.rf, k2, k3, k4⟩
theorem L_house (h : LI X H nx) : CALLA X M_FC_house 1000 6 137 (.ref (bA X) :: []) H nx (fun rv h1 nx' => BK2 X Value.int M_Mod_house [] nx' rv h1) := by
  obtain ⟨P, Q, dh, st, nt, t, im, S, w, i, I, F, B, T, r, rfl, hC⟩ := h
  obtain ⟨a, ha, hSa, h17, hH⟩ := id hC.iv.2.1
  obtain ⟨e, he, hSe⟩ := hC.iv.e16
  have hT := IV_tape hC.iv
  have hIV := hC.iv.house X
  rw [MH_CS]
  obtain ⟨⟨c11, c12, c13, c14, c15⟩, c2, c3, c4, c5, c6, c7, c8⟩ := id hC
  have h65 := c12.1
  have old : ∀ {S' : Nat → Int32} {s : Nat} {w0 : Bool} {L : List Int32}, a < 5 → hEnd S = (S', (s, (w0, L))) → RQ 10 e (s, (w0, L)) → (∀ j, j < 200 → j ≠ 16 → pS S' a L j = S j) ∧ ∀ q, q < a → pS S' a L (200 + q) = S (200 + q) ∧ pS S' a L (205 + q) = S (205 + q) ∧ pS S' a L (210 + q) = S (210 + q) ∧ ∀ j, j < 140 → pS S' a L (215 + 140 * q + j) = S (215 + 140 * q + j) := fun {S' s w0 L} ha5 hE hR => by
    have hG := hEnd_GP X hT ha5 hSa he hSe
    have l1 : ∀ j, j < 200 → j ≠ 16 → S' j = S j := fun j a1 a2 => by have := hEnd_lo (S := S) a1 a2; rw [hE] at this; exact this
    rw [hE] at hG
    obtain ⟨-, -, g1, g2, g3⟩ := hG
    dsimp only at g1 g2 g3
    refine ⟨fun j a1 a2 => by rw [pS_lo (by omega), l1 j a1 a2], fun q hq => ⟨?_, ?_, ?_, fun j hj => ?_⟩⟩
    · rw [pS_lo (by omega), g3 _ (by omega) (by omega) (by omega) (by omega)]
    · rw [pS_lo (by omega), g3 _ (by omega) (by omega) (by omega) (by omega)]
    · unfold pS; rw [if_neg (by omega), if_neg (by omega), g3 _ (by omega) (by omega) (by omega) (by omega)]
    · unfold pS; rw [if_neg (by omega), if_neg (by omega), g3 _ (by omega) (by omega) (by omega) (by omega)]
  have img : ∀ {Q' : Nat → Option HDs}, PE Q Q' → (im = nI 0 ∨ (im = nI 1 ∧ IV I ∧ ∃ wI, SK P Q' (I, wI) ∧ PN (I, wI) ∧ st 3 = (I, wI) ∧ nt 1 = I)) := fun hQ => by
    rcases c3 with z | ⟨z, hI, wI, k1, k2, k3, k4⟩
    · exact Or.inl z
    · exact Or.inr ⟨z, hI, wI, k1.more PE.rf hQ, k2, k3, k4⟩
  refine u_house (a := a) (e := e) (str_ok X) (ix_ok X) (by omega) c11.MH c12 ha hSa he hSe hT (fun z => ⟨_, rfl, ?_, ?_⟩) (fun dh' S' s w0 L ha5 hE hc hR d1 d2 d3 => ⟨_, rfl, ?_, ?_⟩) (fun dh' S' L Hd ha5 hE hR eH d1 d2 d3 d4 => ⟨_, rfl, ?_, ?_⟩)
  · rw [← MH_CS]; exact MH_on
  · have e1 : fHouse S = (-nI 4, S) := if_pos (by rw [hSa, z])
    rw [← MH_CS, show (fHouse S).2 = S by rw [e1]]
    refine t_houseM (str_ok X) (by omega) ha hSa he hSe (fun i' hi => ⟨rfl, P, Q, dh, st, nt, t, im, S, w, i', I, F, B, T, r, by rw [e1], ⟨c11, c12, c13, c14, c15⟩, c2, c3, c4, (hi 4 (by omega)).trans c5, (hi 12 (by omega)).trans c6, (hi 20 (by omega)).trans c7, c8⟩)
  · rw [after2 (dh := dh) (i := i) (Z := S) (I := I) (F := F) (B := B) (T := T) (r := r) (fun j hj => d3 _ (by unfold bA at h65; unfold mB; omega))]; exact MH_on
  · rw [after2 (dh := dh) (i := i) (Z := S) (I := I) (F := F) (B := B) (T := T) (r := r) (fun j hj => d3 _ (by unfold bA at h65; unfold mB; omega))]
    refine t_houseM (str_ok X) (by omega) ha hSa he hSe (fun i' hi => ⟨rfl, P, Q, dh', st, nt, t, im, (fHouse S).2, w, i', I, F, B, T, r, rfl, ⟨d1, d2, hIV, ?_, c15⟩, c2, c3, c4, (hi 4 (by omega)).trans c5, (hi 12 (by omega)).trans c6, (hi 20 (by omega)).trans c7, c8⟩)
    obtain ⟨o1, o2⟩ := old ha5 hE hR
    rw [fHouse_f ha5 hSa hSe he hE hc]
    show SK P Q (pS S' a L, w)
    refine c14.cong c13 (o1 11 (by omega) (by omega)) (fun j a1 a2 => o1 j (by omega) (by omega)) (fun a' q b1 b2 b3 b4 => o2 q ?_)
    have : a' = a := by
      have h2 : nI a' = nI a := b2.symm.trans hSa
      exact (nI_eq (by omega) (by omega)).mp h2
    omega
  · rw [after2 (dh := dh) (i := i) (Z := S) (I := I) (F := F) (B := B) (T := T) (r := r) (fun j hj => d4 _ (by unfold bA at h65; unfold mB; omega))]; exact MH_on
  · rw [after2 (dh := dh) (i := i) (Z := S) (I := I) (F := F) (B := B) (T := T) (r := r) (fun j hj => d4 _ (by unfold bA at h65; unfold mB; omega))]
    refine t_houseM (str_ok X) (by omega) ha hSa he hSe (fun i' hi => ⟨rfl, P, vP Q nx Hd, dh', st, nt, t, im, (fHouse S).2, (w.1, nx), i', I, F, B, T, r, rfl, ⟨d1, d2, hIV, ?_, c15⟩, c2, img d3, c4, (hi 4 (by omega)).trans c5, (hi 12 (by omega)).trans c6, (hi 20 (by omega)).trans c7, c8⟩)
    obtain ⟨o1, o2⟩ := old ha5 hE hR
    obtain ⟨r1, r2, -⟩ := hR
    dsimp only at r1 r2
    rw [fHouse_t ha5 hSa hSe he hE]
    show SK P (vP Q nx Hd) (upd (upd (pS S' a L) 12 (nI a + nI 1)) 17 (nI a), (w.1, nx))
    have hi : ∀ j, j ≠ 12 → j ≠ 17 → upd (upd (pS S' a L) 12 (nI a + nI 1)) 17 (nI a) j = pS S' a L j := fun j a1 a2 => by rw [upd_n a2, upd_n a1]
    have e17 : upd (upd (pS S' a L) 12 (nI a + nI 1)) 17 (nI a) 17 = nI a := upd_s
    generalize upd (upd (pS S' a L) 12 (nI a + nI 1)) 17 (nI a) = Z at hi e17 ⊢
    have ho : hold Z = a := by unfold hold; rw [e17, nI_clamp (by omega)]
    have n17 : ¬ Z 17 = -1 := by
      rw [e17, show (-1 : Int32) = -nI 1 from rfl, neg1_ne (by omega)]; exact not_false
    have e1 : ∀ u nn, sTells Z u nn = Z (u + a) := fun u nn => by unfold sTells; rw [if_neg n17, ho]
    have e2 : progS Z = L := by
      unfold progS
      rw [if_neg n17, ho, hi _ (by omega) (by omega), pS_m ha5, nI_clamp (by omega)]
      rw [show (List.range L.length).map (fun j => Z (215 + 140 * a + j)) = (List.range L.length).map (fun j => pS S' a L (215 + 140 * a + j)) from List.map_congr_left (fun j _ => hi _ (by omega) (by omega))]
      exact pS_steps
    refine ⟨fun p h6 => ?_, ?_⟩
    · obtain ⟨b, q, k1, k2, k3⟩ := c14.1 p h6
      refine ⟨b, q, k1, k2, fun g => ?_⟩
      have g : p < nP Z := g
      have hn : nP Z = nP S := by unfold nP; rw [hi 11 (by omega) (by omega), o1 11 (by omega) (by omega)]
      have := k3 (by show p < nP S; omega)
      rw [this]
      show _ = (ix (Z (18 + p)), (p, Z (24 + p)))
      rw [hi (18 + p) (by omega) (by omega), hi (24 + p) (by omega) (by omega), o1 _ (by omega) (by omega), o1 _ (by omega) (by omega)]
    · show vP Q nx Hd nx = some (sTells Z 200 3, (sTells Z 205 1, progS Z))
      rw [vP_s, e1, e1, e2, hi _ (by omega) (by omega), hi _ (by omega) (by omega), pS_lo (by omega), pS_lo (by omega), eH]
end LAW3
