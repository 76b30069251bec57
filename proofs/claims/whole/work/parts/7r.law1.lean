section LAW1
variable {X : WX} {P : Nat → Option PD} {Q : Nat → Option HDs} {dh : HM} {st : Nat → SR} {nt : Nat → Nat → Int32} {t : Nat × (Nat → Int32)} {im : Int32} {S : Nat → Int32} {w : (Nat → Option Nat) × Nat} {i I F B T : Nat → Int32} {r : Nat → Nat → Int32} {nx k : Nat} {x y z : Int32}
theorem MH_CS {S' : Nat → Int32} : MH X (CS X dh st nt t im S w) i S' I F B T r = CS X (MH X dh i S' I F B T r) st nt t im S w := by
  funext a
  unfold MH CS CH mB bA
  by_cases q : X.2.2.2.1 + 53 ≤ a ∧ a ≤ X.2.2.2.1 + 53 + 11
  · rw [if_pos q, if_neg (by omega)]; exact (if_pos q).symm
  · rw [if_neg q]
    by_cases q2 : (X.2.2.2.1 ≤ a ∧ a < X.2.2.2.1 + 21) ∨ (X.2.2.2.1 + 29 ≤ a ∧ a < X.2.2.2.1 + 53)
    · rw [if_pos q2, if_pos q2]
    · rw [if_neg q2, if_neg q2]; exact (if_neg q).symm
theorem mB_nd {j : Nat} (hj : j ≤ 11) : ¬ dynA X (mB X + j) := by unfold dynA mB bA; omega
theorem MH_keep {S' : Nat → Int32} {dh' : HM} (h : ∀ j, j ≤ 11 → dh' (mB X + j) = MH X dh i S' I F B T r (mB X + j)) : dh' = MH X dh' i S' I F B T r := by
  funext a
  by_cases q : mB X ≤ a ∧ a ≤ mB X + 11
  · obtain ⟨j, hj, rfl⟩ : ∃ j, j ≤ 11 ∧ a = mB X + j := ⟨a - mB X, by omega, by omega⟩
    rw [MH_at j hj, h j hj, MH_at j hj]
  · unfold MH; rw [if_neg q]
theorem DI.ext {dh' : HM} (h : DI X P Q dh) (he : ∀ a, dynA X a → dh' a = dh a) : DI X P Q dh' := by
  refine ⟨fun a q ha => ?_, fun b H hb => ?_⟩
  · obtain ⟨p1, p2, p3, c, o, p4, p5, p6⟩ := h.1 a q ha
    exact ⟨p1, p2, p3, c, o, by rw [he _ (dynP_0 p1)]; exact p4, by rw [he _ (dynP_1 p1)]; exact p5, p6⟩
  · obtain ⟨p1, p2, t', x', y', z', v, f0, f1, f2, f3, f4⟩ := h.2 b H hb
    exact ⟨p1, p2, t', x', y', z', v, by rw [he b (dynB_j (j := 0) p1 (by omega))]; exact f0, by rw [he _ (dynB_j (j := 1) p1 (by omega))]; exact f1, by rw [he _ (dynB_j (j := 2) p1 (by omega))]; exact f2, by rw [he _ (dynB_j (j := 3) p1 (by omega))]; exact f3, by rw [he _ (dynB_j (j := 4) p1 (by omega))]; exact f4⟩
theorem MH_d {S' : Nat → Int32} {a : Nat} (ha : dynA X a) : MH X dh i S' I F B T r a = dh a := by
  unfold MH
  rw [if_neg (by unfold dynA bA at ha; unfold mB; omega)]
theorem DI.MH {S' : Nat → Int32} (h : DI X P Q dh) : DI X P Q (MH X dh i S' I F B T r) := h.ext (fun a ha => MH_d ha)
/-- rows that agree in what the class keeps beside its numbers -/
def KP (S S' : Nat → Int32) : Prop := ∀ j, j = 11 ∨ (17 ≤ j ∧ j < 30) ∨ 200 ≤ j → S' j = S j
theorem KP.rf : KP S S := fun _ _ => rfl
theorem KP.up {S' : Nat → Int32} (h : KP S S') (hk : ¬ (k = 11 ∨ (17 ≤ k ∧ k < 30) ∨ 200 ≤ k)) : KP S (upd S' k x) := fun j hj => by
  rw [upd_n (by omega)]; exact h j hj
theorem KP.sk {S' : Nat → Int32} (h : KP S S') (hS : SK P Q (S, w)) : SK P Q (S', w) := hS.of rfl (h 11 (by omega)) (fun j a1 a2 => h j (by omega)) (fun j a1 => h j (by omega))
/-- all that is known of the two, class and model -/
def Co (X : WX) (P : Nat → Option PD) (Q : Nat → Option HDs) (dh : HM) (st : Nat → SR) (nt : Nat → Nat → Int32) (t : Nat × (Nat → Int32)) (im : Int32) (S : Nat → Int32) (w : (Nat → Option Nat) × Nat) (i I : Nat → Int32) (r : Nat → Nat → Int32) (nx : Nat) : Prop :=
  (DI X P Q dh ∧ Nw X P Q nx ∧ IV S ∧ SK P Q (S, w) ∧ PN (S, w)) ∧ (PN (st 1) ∧ PN (st 2) ∧ PN (st 3)) ∧ (im = nI 0 ∨ (im = nI 1 ∧ IV I ∧ ∃ wI, SK P Q (I, wI) ∧ PN (I, wI) ∧ st 3 = (I, wI) ∧ nt 1 = I)) ∧ t.1 < 1000 ∧ i 4 = im ∧ i 12 = nI 0 ∧ i 20 = nI t.1 ∧ r 11 = t.2
def LI (X : WX) (h : HM) (nx : Nat) : Prop := ∃ (P : Nat → Option PD) (Q : Nat → Option HDs) (dh : HM) (st : Nat → SR) (nt : Nat → Nat → Int32) (t : Nat × (Nat → Int32)) (im : Int32) (S : Nat → Int32) (w : (Nat → Option Nat) × Nat) (i I F B T : Nat → Int32) (r : Nat → Nat → Int32), h = MH X (CS X dh st nt t im S w) i S I F B T r ∧ Co X P Q dh st nt t im S w i I r nx
theorem Co.iv (h : Co X P Q dh st nt t im S w i I r nx) : IV S := h.1.2.2.1
theorem Co.cx {S' : Nat → Int32} (h : Co X P Q dh st nt t im S w i I r nx) : Cx X P Q 9999 (MH X dh i S' I F B T r) st S w := ⟨h.1.1.MH, h.iv.WF, h.1.2.2.2.1, h.1.2.2.2.2, h.2.1.1, h.2.1.2.1, by decide⟩
theorem Co.bd (h : Co X P Q dh st nt t im S w i I r nx) : BD S := h.iv.BD h.1.1 h.1.2.2.2.1
/-- what the model's answer comes behind the class's -/
def BK2 {α : Type} (X : WX) (c : α → Value) (MM : MD) (as : List Value) (nx : Nat) : Option Value → HM → Prop := fun rv h1 => ∃ v : α, rv = some (c v) ∧ onO (h1 (mB X)) (fun c _ => c = 12) ∧ CALL X MM 1000 (.ref (mB X) :: as) h1 (fun rv2 h2 => rv2 = some (c v) ∧ LI X h2 nx)
theorem after {dh' : HM} {st' : Nat → SR} {S' Z : Nat → Int32} {w' : (Nat → Option Nat) × Nat} {nt' : Nat → Nat → Int32} {t' : Nat × (Nat → Int32)} {im' : Int32} (hF : Fr X (MH X dh i Z I F B T r) dh') : CS X dh' st' nt' t' im' S' w' = MH X (CS X dh' st' nt' t' im' S' w') i Z I F B T r := by
  rw [MH_CS, ← MH_keep (dh := dh) (fun j hj => hF _ (mB_nd hj))]
theorem MH_on {h : HM} {Z : Nat → Int32} : onO (MH X h i Z I F B T r (mB X)) (fun c _ => c = 12) := by rw [onO_M]
theorem two {α : Type} {c : α → Value} {MC MM : MD} {as : List Value} {v : α} {S' : Nat → Int32} (hC : Co X P Q dh st nt t im S w i I r nx) (hS' : IV S') (hk : KP S S')
    (hu : ∀ K : Option Value → HM → Prop, Cx X P Q 9999 (MH X dh i S I F B T r) st S w → (∀ dh' st', Nx X P Q (MH X dh i S I F B T r) st dh' st' → K (some (c v)) (CS X dh' st' nt t im S' w)) → CALL X MC 1000 (.ref (bA X) :: as) (CS X (MH X dh i S I F B T r) st nt t im S w) K)
    (ht : ∀ (h : HM) (K : Option Value → HM → Prop), (∀ i' F' B' T' r', i' 4 = i 4 → i' 12 = i 12 → i' 20 = i 20 → r' 11 = r 11 → K (some (c v)) (MH X h i' S' I F' B' T' r')) → CALL X MM 1000 (.ref (mB X) :: as) (MH X h i S I F B T r) K) : CALL X MC 1000 (.ref (bA X) :: as) (MH X (CS X dh st nt t im S w) i S I F B T r) (BK2 X c MM as nx) := by
  rw [MH_CS]
  refine hu _ hC.cx (fun dh' st' hN => ⟨v, rfl, ?_, ?_⟩)
  · rw [after hN.2.1]; exact MH_on
  · rw [after hN.2.1]
    refine ht _ _ (fun i' F' B' T' r' e4 e12 e20 e11 => ⟨rfl, P, Q, dh', st', nt, t, im, S', w, i', I, F', B', T', r', rfl, ?_⟩)
    obtain ⟨⟨c1, c2, c3, c4, c5⟩, ⟨c6, c7, c8⟩, c9, c10, c11, c12, c13, c14⟩ := hC
    obtain ⟨n1, n2, n3, n4, n5⟩ := hN
    exact ⟨⟨n1, c2, hS', hk.sk c4, c5⟩, ⟨n4, n5, by rw [n3]; exact c8⟩, by rw [n3]; exact c9, c10, e4.trans c11, e12.trans c12, e20.trans c13, e11.trans c14⟩
/-- the same of a question -/
theorem ask {α : Type} {c : α → Value} {MC MM : MD} {as : List Value} {v : α} (hC : Co X P Q dh st nt t im S w i I r nx)
    (hu : ∀ K : Option Value → HM → Prop, Cx X P Q 9999 (MH X dh i S I F B T r) st S w → (∀ dh' st', Nx X P Q (MH X dh i S I F B T r) st dh' st' → K (some (c v)) (CS X dh' st' nt t im S w)) → CALL X MC 1000 (.ref (bA X) :: as) (CS X (MH X dh i S I F B T r) st nt t im S w) K)
    (ht : ∀ (h : HM) (K : Option Value → HM → Prop), (∀ i' F' B' T' r', i' 4 = i 4 → i' 12 = i 12 → i' 20 = i 20 → r' 11 = r 11 → K (some (c v)) (MH X h i' S I F' B' T' r')) → CALL X MM 1000 (.ref (mB X) :: as) (MH X h i S I F B T r) K) : CALL X MC 1000 (.ref (bA X) :: as) (MH X (CS X dh st nt t im S w) i S I F B T r) (BK2 X c MM as nx) := two hC hC.iv KP.rf hu ht
theorem KP.use (h : IV S) : KP S (fUse S x y).2 := by
  unfold fUse
  split
  · rename_i c
    obtain ⟨p, h6, -, rfl, e⟩ := isPer6 h (Bool.and_eq_true_iff.mp c).1
    rw [e]
    exact KP.rf.up (by omega)
  · exact KP.rf
theorem KP.believe (h : IV S) : KP S (fBelieve S x y).2 := by
  unfold fBelieve
  split
  · rename_i c1
    obtain ⟨p, h6, -, rfl, e⟩ := isPer6 h c1
    split
    · rw [e]; exact KP.rf.up (by omega)
    · exact KP.rf
  · exact KP.rf
theorem KP.row (h : IV S) : KP S (fRow S x y z).2 := by
  unfold fRow
  split
  · rename_i c
    obtain ⟨c1, c2⟩ := Bool.and_eq_true_iff.mp c
    obtain ⟨p, h6, -, rfl, e⟩ := isPer6 h c1
    obtain ⟨j, hj, rfl⟩ := isIn_nI (n := 3) (by decide) c2
    split
    · split
      · rw [e, ix_nI (by omega)]; exact KP.rf.up (by omega)
      · exact KP.rf
    · exact KP.rf
  · exact KP.rf
theorem KP.hear (h : IV S) : KP S (fHear S x).2 := by
  unfold fHear
  split
  · rename_i c1
    obtain ⟨p, h6, -, rfl, e⟩ := isPer6 h c1
    rw [e]; exact KP.rf.up (by omega)
  · exact KP.rf
theorem KP.tell (h : IV S) : KP S (fTell S x y).2 := by
  unfold fTell
  split
  · rename_i c
    obtain ⟨c1, c2⟩ := Bool.and_eq_true_iff.mp c
    obtain ⟨p, h6, -, rfl, e⟩ := isPer6 h c1
    obtain ⟨o, o6, -, rfl, eo⟩ := isPer6 h c2
    split
    · exact KP.rf
    · split
      · rw [e, eo]; exact KP.rf.up (by omega)
      · exact KP.rf
  · exact KP.rf
theorem KP.feed (h : IV S) : KP S (fFeed S x).2 := by
  unfold fFeed
  split
  · obtain ⟨e, he, e16⟩ := (h.1 16).2.2.2.2.2.2.2.2.2 rfl
    split
    · exact KP.rf
    · rename_i c2
      rw [e16] at c2 ⊢
      have he2 : e < 100 := by
        rcases Nat.lt_or_ge e 100 with q | q
        · exact q
        · exact absurd (show nI e = 100 by rw [show e = 100 by omega]; rfl) c2
      dsimp only
      rw [ix_nI (by omega)]
      exact (KP.rf.up (by omega)).up (by omega)
  · exact KP.rf
theorem KP.set : KP S (fSet S x y).2 := by
  unfold fSet
  split
  · rename_i c1
    obtain ⟨c, hc, rfl, e⟩ := isIn2 c1
    split
    · rw [e]
      exact fun j hj => sSet_hi hc (by omega)
    · exact KP.rf
  · exact KP.rf
theorem KP.day (h : IV S) : KP S (fDay S).2 := by
  unfold fDay
  split
  · exact KP.rf
  · exact fun j hj => goes_hi h (by omega)
theorem okV.cnt {a u M : Nat} (h : okV S a u M) : ∃ t, t ≤ M ∧ S a = nI t := by
  obtain ⟨n, h1, h2, -⟩ := h
  exact ⟨n, h1, h2⟩
theorem KP.see (h : IV S) : KP S (fSee S x y).2 := by
  obtain ⟨n, hn, e⟩ := h.2.2.1.cnt
  unfold fSee
  split
  · exact KP.rf.up (by omega)
  · split
    · split
      · split
        · exact KP.rf
        · rw [e, ix_nI (by omega)]; exact ((KP.rf.up (by omega)).up (by omega)).up (by omega)
      · exact KP.rf
    · exact KP.rf
theorem KP.book (h : IV S) : KP S (fBook S x y).2 := by
  obtain ⟨n, hn, e⟩ := h.2.2.2.1.cnt
  unfold fBook
  split
  · exact KP.rf.up (by omega)
  · split
    · split
      · split
        · exact KP.rf
        · rw [e, ix_nI (by omega)]; exact ((KP.rf.up (by omega)).up (by omega)).up (by omega)
      · exact KP.rf
    · exact KP.rf
theorem KP.rule (h : IV S) : KP S (fRule S x y z).2 := by
  obtain ⟨n, hn, e, -⟩ := h.2.2.2.2
  unfold fRule
  split
  · exact KP.rf.up (by omega)
  · split
    · split
      · split
        · exact KP.rf
        · rw [e, ix_nI (by omega)]; exact (((KP.rf.up (by omega)).up (by omega)).up (by omega)).up (by omega)
      · exact KP.rf
    · exact KP.rf
end LAW1
