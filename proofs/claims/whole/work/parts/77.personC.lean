section PERC
variable {X : WX} {d b nx : Nat} {K : Option Value → HM → Nat → Prop} {P : Nat → Option PD} {Q : Nat → Option HDs} {dh : HM} {st : Nat → SR} {nt : Nat → Nat → Int32} {t : Nat × (Nat → Int32)} {im : Int32} {S : Nat → Int32} {w : (Nat → Option Nat) × Nat}
/-- all that is new will stand behind nx -/
def Nw (X : WX) (P : Nat → Option PD) (Q : Nat → Option HDs) (nx : Nat) : Prop := bA X + 65 ≤ nx ∧ (∀ a q, P a = some q → a + 2 ≤ nx) ∧ ∀ b H, Q b = some H → b + 5 ≤ nx
def PE {α : Type} (P P' : Nat → Option α) : Prop := ∀ a q, P a = some q → P' a = some q
theorem PE.rf {α : Type} {P : Nat → Option α} : PE P P := fun _ _ h => h
def vP {α : Type} (P : Nat → Option α) (a : Nat) (q : α) : Nat → Option α := fun p => if p = a then some q else P p
theorem vP_s {α : Type} {P : Nat → Option α} {a : Nat} {q : α} : vP P a q a = some q := if_pos rfl
theorem vP_n {α : Type} {P : Nat → Option α} {a p : Nat} {q : α} (h : ¬ p = a) : vP P a q p = P p := if_neg h
theorem SK.more {P P' : Nat → Option PD} {Q Q' : Nat → Option HDs} (hP : PE P P') (hQ : PE Q Q') {z : SR} (h : SK P Q z) : SK P' Q' z :=
  ⟨fun p hp => by obtain ⟨a, q, e1, e2, e3⟩ := h.1 p hp; exact ⟨a, q, e1, hP _ _ e2, e3⟩, hQ _ _ h.2⟩
theorem cvOK.more {Q Q' : Nat → Option HDs} (hQ : PE Q Q') {q : PD} {c : Nat → Int32} {o : Option Nat} (h : cvOK Q q c o) : cvOK Q' q c o := fun b hb => by
  obtain ⟨H, e1, e2⟩ := h b hb
  exact ⟨H, hQ _ _ e1, e2⟩
/-- what has come to be is known -/
theorem DI.newP (hD : DI X P Q dh) (hN : Nw X P Q nx) {k n : Nat} {v : Int32} (hk : k < 7) (hn : n < 6) : DI X (vP P nx (k, (n, v))) Q (PN0 X dh nx k n v) ∧ Nw X (vP P nx (k, (n, v))) Q (nx + 2) ∧ PE P (vP P nx (k, (n, v))) := by
  obtain ⟨n1, n2, n3⟩ := hN
  refine ⟨⟨fun a q ha => ?_, fun b' H hb => ?_⟩, ⟨by omega, fun a q ha => ?_, fun b' H hb => ?_⟩, fun a q ha => ?_⟩
  · by_cases z : a = nx
    · subst z
      rw [vP_s] at ha
      cases ha
      refine ⟨Or.inr n1, hk, hn, fun _ => 0, none, ?_, ?_, fun b hb => by cases hb⟩
      · unfold PN0; rw [up_n (by omega), up_s]
      · unfold PN0; rw [up_s]
    · rw [vP_n z] at ha
      have := n2 _ _ ha
      obtain ⟨p1, p2, p3, c, o, p4, p5, p6⟩ := hD.1 a q ha
      exact ⟨p1, p2, p3, c, o, by unfold PN0; rw [up_n (by omega), up_n (by omega)]; exact p4, by unfold PN0; rw [up_n (by omega), up_n (by omega)]; exact p5, p6⟩
  · have := n3 _ _ hb
    obtain ⟨p1, p2, t, x, y, z, w, f0, f1, f2, f3, f4⟩ := hD.2 b' H hb
    refine ⟨p1, p2, t, x, y, z, w, ?_, ?_, ?_, ?_, ?_⟩ <;> (unfold PN0; rw [up_n (by omega), up_n (by omega)]; assumption)
  · by_cases z : a = nx
    · omega
    · rw [vP_n z] at ha; have := n2 _ _ ha; omega
  · have := n3 _ _ hb; omega
  · rw [vP_n (by have := n2 _ _ ha; omega)]; exact ha
theorem out7 {x : Int32} (h : isIn x 0 6 = false) (h0 : ¬ x < nI 0) : ¬ x < nI 7 := fun h7 => by
  have e : isIn x 0 6 = true := by
    simp only [isIn, Bool.and_eq_true, decide_eq_true_eq]
    refine ⟨Int32.not_lt.mp h0, Int32.le_iff_toInt_le.mpr ?_⟩
    have := Int32.lt_iff_toInt_lt.mp h7
    rw [show (nI 7).toInt = 7 from by decide] at this
    rw [show (6 : Int32).toInt = 6 from by decide]
    omega
  rw [e] at h; cases h
theorem out9 {x : Int32} (h : isIn x 0 9 = false) (h0 : ¬ x < nI 0) : nI 9 < x := by
  apply Int32.not_le.mp
  intro h9
  have e : isIn x 0 9 = true := by
    simp only [isIn, Bool.and_eq_true, decide_eq_true_eq]
    exact ⟨Int32.not_lt.mp h0, h9⟩
  rw [e] at h; cases h
theorem PN0_CH (hn : bA X + 65 ≤ nx) {k n : Nat} {v : Int32} : PN0 X (CH X dh st nt t im) nx k n v = CH X (PN0 X dh nx k n v) st nt t im := by
  unfold PN0
  rw [CH_upD (Or.inr hn), CH_upD (Or.inr (by omega))]
theorem u_person (hd : 6 ≤ d) {x y : Int32} (hC : Cx X P Q b dh st S w) (hN : Nw X P Q nx) (h0 : (fPerson S x y).2 = S → K (some (.int (fPerson S x y).1)) (CS X dh st nt t im S w) nx)
    (h1 : ∀ k v n a, k < 7 → v ≤ 9 → n < 6 → a = nx → nP S = n → fPerson S x y = (nI n, newP S n (nI k) (nI v)) → DI X (vP P a (k, (n, nI v))) Q (PN0 X dh a k n (nI v)) → Nw X (vP P a (k, (n, nI v))) Q (nx + 2) → PE P (vP P a (k, (n, nI v))) → SK (vP P a (k, (n, nI v))) Q (newP S n (nI k) (nI v), (va_up w.1 n (some a), w.2)) → PN (newP S n (nI k) (nI v), (va_up w.1 n (some a), w.2)) → K (some (.int (nI n))) (CS X (PN0 X dh a k n (nI v)) st nt t im (newP S n (nI k) (nI v)) (va_up w.1 n (some a), w.2)) (nx + 2)) : CALLA X M_FC_person d 2 144 [.ref (bA X), .int x, .int y] (CS X dh st nt t im S w) nx K := by
  obtain ⟨d, rfl⟩ : ∃ e, d = e + 1 := ⟨d - 1, by omega⟩
  refine callA_of (by decide +kernel) (by decide) (F_FC_person X d) (Nat.le_of_ble_eq_true rfl) ?_
  obtain ⟨⟨n, hn, hS⟩, -⟩ := hC.2.1
  have hnP : nP S = n := nP_of hn hS
  unfold CS at h0
  cases hi : isIn x 0 6 with
  | false =>
    have e : fPerson S x y = (-1, S) := by unfold fPerson; rw [hi]; rfl
    rw [e] at h0
    unfold CS
    simp (disch := first | omega | rfl | (simp (disch := omega) only [vuS, vuN])) only [↓sSeq, ↓sI_f, ↓sL_f, ↓sR_f, ↓sInc_f, fE_c, eset_0, eset_1i, eset_1r, eset_1n, eset_1l, eset_ss, ↓sIf, ↓sBrk, ↓sCnt, ↓sRetI, ↓sRetL, ↓sRetR, ↓sRet, ↓sRetZ, ↓sSkip, ↓sSw, ↓sK, ↓sPop, ↓sFor_t, ↓sast, ↓sastC, ↓szst, ↓spst, ↓sput, ↓sputZ, ↓sputR, ↓sputN, ↓sputC, ↓sCopy,
    ↓xi, ↓xl, ↓xr, ↓xc, ↓xcl, ↓xadd, ↓xsub, ↓xmul, ↓xdiv, ↓xrem, ↓xand, ↓xor, ↓xxor, ↓xshl, ↓xshr, ↓xneg, ↓xaddl, ↓xsubl, ↓xmull, ↓xdivl, ↓xreml, ↓xnegl, ↓xi2l, ↓xi2c, ↓xofC, ↓xite, ↓xitel, ↓xiter, ↓xmax, ↓xmin, ↓xabs, ↓xabsl,
    ↓xg, ↓xgR, ↓xgO, ↓oR, ↓xald, ↓xzld, ↓xpld, ↓xlen, ↓xstr, ↓xinst, ↓cNot, ↓cAnd, ↓cOr, ↓cEq, ↓cLt, ↓cGt, ↓cEq0, ↓cLt0, ↓cGt0, ↓cEqL, ↓cLtL, ↓cGtL, ↓cEqO,
    ↓kI, ↓kL, ↓kR, ↓kV, ↓kS, ↓kD_e, ↓kP, ↓kT, ↓CALL_t, ↓vI, ↓vL, ↓vR, ↓aN, ↓aC, aenv_i, aenv_l, aenv_r, aenv_0, List.replicate, Nat.reduceSub, Nat.reduceAdd, eset2, kill, List.set_cons_zero, List.set_cons_succ, List.set_nil, List.getElem?_cons_zero, List.getElem?_cons_succ, List.getElem?_nil, List.mem_cons, List.not_mem_nil, or_false, or_true, true_and, and_true, true_or, false_or, false_and, and_false, not_false_eq_true, not_true_eq_false, forall_const, false_imp_iff, imp_false, true_imp_iff, if_true, if_false, implies_true, reduceIte, reduceCtorEq,
    ↓onO_CF, ↓onO_CT, ↓onI_CT1, ↓onO_CN, ↓onI_CN1, ↓onI_CN2, ↓onI_CN3, ↓onI_CN4, ↓onI_CN5, ↓onI_CN6, ↓onI_CN7, ↓onI_CN8, ↓onO_CS, ↓onI_CS1, ↓onP_CS2, ↓onI_CS3, ↓onI_CS4, ↓onI_CS5, ↓fR_f0, ↓fR_f1, ↓fR_f2, ↓fR_f3, ↓fR_f4, ↓fR_f5, ↓fI_f6, ↓fR_f7, ↓fR_t0, ↓fI_t1, ↓fR_s0, ↓fR_s1, ↓fR_s2, ↓fR_s3, ↓fR_s4, ↓fR_s5, ↓fO_s5, ↓fI_s6, ↓fI_s7, ↓fI_s8, ↓fI_s9, ↓fR_n0, ↓fI_n1, ↓fI_n2, ↓fR_n3, ↓fR_n4, ↓fI_n5, ↓fR_n6, ↓fR_n7, ↓fR_n8, ↓fI_n9, ↓fR_n10, ↓fR_n11, ↓fI_n12,
    CHu_F, CHu_T, CHu_T1, CHu_S5, CHu_S6, CHu_S7, CHu_S8, CHu_S9, CHu_a1, CHu_a2, CHu_a3, CHu_a4, CHu_a5, CHu_N1, CHu_N2, CHu_N5, CHu_N9, CHu_N12, CHu_b1, CHu_b2, CHu_b3, CHu_b4, CHu_b5, CHu_b6, CHu_b7, CHu_b8, ffs_len, tfs_len, sfs_len, nfs_len, sl_i, vuS, vuN, vuV, fS_s, Nat.reduceLT, Nat.reduceEqDiff, Nat.le_refl,
    ↓fI_h0, ↓fI_h1, ↓fR_h2, ↓fR_h3, ↓fI_h4, ↓fR_h5, ↓fI_h6, ↓fR_h7, ↓fR_h8, ↓fI_h9, ↓fI_h10, ↓fI_p0, ↓fI_p1, ↓fR_p2, ↓fO_p3, hfs_s0, hfs_s1, hfs_s4, hfs_s6, hfs_s8, hfs_s9, hfs_s10, hfs_len, pfs_len, pfs_s3, Nat.reduceLT, Nat.reduceEqDiff, nI_add, nI_mulN, lit32, nI_clamp, vp_in_nI, nI_ltI, nI_eq, nI_leI, Nat.reduceMul, Nat.zero_add, Nat.add_zero, ↓xNew, ↓xNewI, ↓xNewZ, ↓xNewP, ↓sObj, ↓kVA, ↓kSA, ↓sCtor, ↓sRetR, ↓CALLA_t, rmOf, Nat.reduceLeDiff, Nat.not_lt_zero, ↓onO_us, ↓onO_un2, List.length_cons, List.length_nil, B_FC_person, M_FC_person]
    exact ⟨fun _ => h0 rfl, fun z => ⟨fun z2 => absurd z2 (out7 hi z), fun _ => h0 rfl⟩⟩
  | true =>
    obtain ⟨k, hk, rfl⟩ := isIn_nI (n := 6) (by decide) hi
    have k7 : (k < 7) = True := eq_true (by omega)
    cases hi2 : isIn y 0 9 with
    | false =>
      have e : fPerson S (nI k) y = (-2, S) := by unfold fPerson; rw [hi, hi2]; rfl
      rw [e] at h0
      unfold CS
      simp (disch := first | omega | rfl | (simp (disch := omega) only [vuS, vuN])) only [↓sSeq, ↓sI_f, ↓sL_f, ↓sR_f, ↓sInc_f, fE_c, eset_0, eset_1i, eset_1r, eset_1n, eset_1l, eset_ss, ↓sIf, ↓sBrk, ↓sCnt, ↓sRetI, ↓sRetL, ↓sRetR, ↓sRet, ↓sRetZ, ↓sSkip, ↓sSw, ↓sK, ↓sPop, ↓sFor_t, ↓sast, ↓sastC, ↓szst, ↓spst, ↓sput, ↓sputZ, ↓sputR, ↓sputN, ↓sputC, ↓sCopy,
    ↓xi, ↓xl, ↓xr, ↓xc, ↓xcl, ↓xadd, ↓xsub, ↓xmul, ↓xdiv, ↓xrem, ↓xand, ↓xor, ↓xxor, ↓xshl, ↓xshr, ↓xneg, ↓xaddl, ↓xsubl, ↓xmull, ↓xdivl, ↓xreml, ↓xnegl, ↓xi2l, ↓xi2c, ↓xofC, ↓xite, ↓xitel, ↓xiter, ↓xmax, ↓xmin, ↓xabs, ↓xabsl,
    ↓xg, ↓xgR, ↓xgO, ↓oR, ↓xald, ↓xzld, ↓xpld, ↓xlen, ↓xstr, ↓xinst, ↓cNot, ↓cAnd, ↓cOr, ↓cEq, ↓cLt, ↓cGt, ↓cEq0, ↓cLt0, ↓cGt0, ↓cEqL, ↓cLtL, ↓cGtL, ↓cEqO,
    ↓kI, ↓kL, ↓kR, ↓kV, ↓kS, ↓kD_e, ↓kP, ↓kT, ↓CALL_t, ↓vI, ↓vL, ↓vR, ↓aN, ↓aC, aenv_i, aenv_l, aenv_r, aenv_0, List.replicate, Nat.reduceSub, Nat.reduceAdd, eset2, kill, List.set_cons_zero, List.set_cons_succ, List.set_nil, List.getElem?_cons_zero, List.getElem?_cons_succ, List.getElem?_nil, List.mem_cons, List.not_mem_nil, or_false, or_true, true_and, and_true, true_or, false_or, false_and, and_false, not_false_eq_true, not_true_eq_false, forall_const, false_imp_iff, imp_false, true_imp_iff, if_true, if_false, implies_true, reduceIte, reduceCtorEq,
    ↓onO_CF, ↓onO_CT, ↓onI_CT1, ↓onO_CN, ↓onI_CN1, ↓onI_CN2, ↓onI_CN3, ↓onI_CN4, ↓onI_CN5, ↓onI_CN6, ↓onI_CN7, ↓onI_CN8, ↓onO_CS, ↓onI_CS1, ↓onP_CS2, ↓onI_CS3, ↓onI_CS4, ↓onI_CS5, ↓fR_f0, ↓fR_f1, ↓fR_f2, ↓fR_f3, ↓fR_f4, ↓fR_f5, ↓fI_f6, ↓fR_f7, ↓fR_t0, ↓fI_t1, ↓fR_s0, ↓fR_s1, ↓fR_s2, ↓fR_s3, ↓fR_s4, ↓fR_s5, ↓fO_s5, ↓fI_s6, ↓fI_s7, ↓fI_s8, ↓fI_s9, ↓fR_n0, ↓fI_n1, ↓fI_n2, ↓fR_n3, ↓fR_n4, ↓fI_n5, ↓fR_n6, ↓fR_n7, ↓fR_n8, ↓fI_n9, ↓fR_n10, ↓fR_n11, ↓fI_n12,
    CHu_F, CHu_T, CHu_T1, CHu_S5, CHu_S6, CHu_S7, CHu_S8, CHu_S9, CHu_a1, CHu_a2, CHu_a3, CHu_a4, CHu_a5, CHu_N1, CHu_N2, CHu_N5, CHu_N9, CHu_N12, CHu_b1, CHu_b2, CHu_b3, CHu_b4, CHu_b5, CHu_b6, CHu_b7, CHu_b8, ffs_len, tfs_len, sfs_len, nfs_len, sl_i, vuS, vuN, vuV, fS_s, Nat.reduceLT, Nat.reduceEqDiff, Nat.le_refl,
    ↓fI_h0, ↓fI_h1, ↓fR_h2, ↓fR_h3, ↓fI_h4, ↓fR_h5, ↓fI_h6, ↓fR_h7, ↓fR_h8, ↓fI_h9, ↓fI_h10, ↓fI_p0, ↓fI_p1, ↓fR_p2, ↓fO_p3, hfs_s0, hfs_s1, hfs_s4, hfs_s6, hfs_s8, hfs_s9, hfs_s10, hfs_len, pfs_len, pfs_s3, Nat.reduceLT, Nat.reduceEqDiff, nI_add, nI_mulN, lit32, nI_clamp, vp_in_nI, nI_ltI, nI_eq, nI_leI, Nat.reduceMul, Nat.zero_add, Nat.add_zero, ↓xNew, ↓xNewI, ↓xNewZ, ↓xNewP, ↓sObj, ↓kVA, ↓kSA, ↓sCtor, ↓sRetR, ↓CALLA_t, rmOf, Nat.reduceLeDiff, Nat.not_lt_zero, ↓onO_us, ↓onO_un2, List.length_cons, List.length_nil, B_FC_person, M_FC_person, k7]
      exact ⟨fun _ => h0 rfl, fun z => ⟨fun _ => h0 rfl, fun z2 => absurd (out9 hi2 z) z2⟩⟩
    | true =>
      obtain ⟨v, hv, rfl⟩ := isIn_nI (n := 9) (by decide) hi2
      have v9 : (9 < v) = False := eq_false (by omega)
      by_cases c : n = 6
      · subst c
        have e : fPerson S (nI k) (nI v) = (-4, S) := by unfold fPerson; rw [hi, hi2, hS]; rfl
        rw [e] at h0
        unfold CS
        simp (disch := first | omega | rfl | (simp (disch := omega) only [vuS, vuN])) only [↓sSeq, ↓sI_f, ↓sL_f, ↓sR_f, ↓sInc_f, fE_c, eset_0, eset_1i, eset_1r, eset_1n, eset_1l, eset_ss, ↓sIf, ↓sBrk, ↓sCnt, ↓sRetI, ↓sRetL, ↓sRetR, ↓sRet, ↓sRetZ, ↓sSkip, ↓sSw, ↓sK, ↓sPop, ↓sFor_t, ↓sast, ↓sastC, ↓szst, ↓spst, ↓sput, ↓sputZ, ↓sputR, ↓sputN, ↓sputC, ↓sCopy,
    ↓xi, ↓xl, ↓xr, ↓xc, ↓xcl, ↓xadd, ↓xsub, ↓xmul, ↓xdiv, ↓xrem, ↓xand, ↓xor, ↓xxor, ↓xshl, ↓xshr, ↓xneg, ↓xaddl, ↓xsubl, ↓xmull, ↓xdivl, ↓xreml, ↓xnegl, ↓xi2l, ↓xi2c, ↓xofC, ↓xite, ↓xitel, ↓xiter, ↓xmax, ↓xmin, ↓xabs, ↓xabsl,
    ↓xg, ↓xgR, ↓xgO, ↓oR, ↓xald, ↓xzld, ↓xpld, ↓xlen, ↓xstr, ↓xinst, ↓cNot, ↓cAnd, ↓cOr, ↓cEq, ↓cLt, ↓cGt, ↓cEq0, ↓cLt0, ↓cGt0, ↓cEqL, ↓cLtL, ↓cGtL, ↓cEqO,
    ↓kI, ↓kL, ↓kR, ↓kV, ↓kS, ↓kD_e, ↓kP, ↓kT, ↓CALL_t, ↓vI, ↓vL, ↓vR, ↓aN, ↓aC, aenv_i, aenv_l, aenv_r, aenv_0, List.replicate, Nat.reduceSub, Nat.reduceAdd, eset2, kill, List.set_cons_zero, List.set_cons_succ, List.set_nil, List.getElem?_cons_zero, List.getElem?_cons_succ, List.getElem?_nil, List.mem_cons, List.not_mem_nil, or_false, or_true, true_and, and_true, true_or, false_or, false_and, and_false, not_false_eq_true, not_true_eq_false, forall_const, false_imp_iff, imp_false, true_imp_iff, if_true, if_false, implies_true, reduceIte, reduceCtorEq,
    ↓onO_CF, ↓onO_CT, ↓onI_CT1, ↓onO_CN, ↓onI_CN1, ↓onI_CN2, ↓onI_CN3, ↓onI_CN4, ↓onI_CN5, ↓onI_CN6, ↓onI_CN7, ↓onI_CN8, ↓onO_CS, ↓onI_CS1, ↓onP_CS2, ↓onI_CS3, ↓onI_CS4, ↓onI_CS5, ↓fR_f0, ↓fR_f1, ↓fR_f2, ↓fR_f3, ↓fR_f4, ↓fR_f5, ↓fI_f6, ↓fR_f7, ↓fR_t0, ↓fI_t1, ↓fR_s0, ↓fR_s1, ↓fR_s2, ↓fR_s3, ↓fR_s4, ↓fR_s5, ↓fO_s5, ↓fI_s6, ↓fI_s7, ↓fI_s8, ↓fI_s9, ↓fR_n0, ↓fI_n1, ↓fI_n2, ↓fR_n3, ↓fR_n4, ↓fI_n5, ↓fR_n6, ↓fR_n7, ↓fR_n8, ↓fI_n9, ↓fR_n10, ↓fR_n11, ↓fI_n12,
    CHu_F, CHu_T, CHu_T1, CHu_S5, CHu_S6, CHu_S7, CHu_S8, CHu_S9, CHu_a1, CHu_a2, CHu_a3, CHu_a4, CHu_a5, CHu_N1, CHu_N2, CHu_N5, CHu_N9, CHu_N12, CHu_b1, CHu_b2, CHu_b3, CHu_b4, CHu_b5, CHu_b6, CHu_b7, CHu_b8, ffs_len, tfs_len, sfs_len, nfs_len, sl_i, vuS, vuN, vuV, fS_s, Nat.reduceLT, Nat.reduceEqDiff, Nat.le_refl,
    ↓fI_h0, ↓fI_h1, ↓fR_h2, ↓fR_h3, ↓fI_h4, ↓fR_h5, ↓fI_h6, ↓fR_h7, ↓fR_h8, ↓fI_h9, ↓fI_h10, ↓fI_p0, ↓fI_p1, ↓fR_p2, ↓fO_p3, hfs_s0, hfs_s1, hfs_s4, hfs_s6, hfs_s8, hfs_s9, hfs_s10, hfs_len, pfs_len, pfs_s3, Nat.reduceLT, Nat.reduceEqDiff, nI_add, nI_mulN, lit32, nI_clamp, vp_in_nI, nI_ltI, nI_eq, nI_leI, Nat.reduceMul, Nat.zero_add, Nat.add_zero, ↓xNew, ↓xNewI, ↓xNewZ, ↓xNewP, ↓sObj, ↓kVA, ↓kSA, ↓sCtor, ↓sRetR, ↓CALLA_t, rmOf, Nat.reduceLeDiff, Nat.not_lt_zero, ↓onO_us, ↓onO_un2, List.length_cons, List.length_nil, B_FC_person, M_FC_person, k7, v9, hS]
        exact h0 rfl
      · have n6 : (n < 6) = True := eq_true (by omega)
        unfold CS
        simp (disch := first | omega | rfl | (simp (disch := omega) only [vuS, vuN])) only [↓sSeq, ↓sI_f, ↓sL_f, ↓sR_f, ↓sInc_f, fE_c, eset_0, eset_1i, eset_1r, eset_1n, eset_1l, eset_ss, ↓sIf, ↓sBrk, ↓sCnt, ↓sRetI, ↓sRetL, ↓sRetR, ↓sRet, ↓sRetZ, ↓sSkip, ↓sSw, ↓sK, ↓sPop, ↓sFor_t, ↓sast, ↓sastC, ↓szst, ↓spst, ↓sput, ↓sputZ, ↓sputR, ↓sputN, ↓sputC, ↓sCopy,
    ↓xi, ↓xl, ↓xr, ↓xc, ↓xcl, ↓xadd, ↓xsub, ↓xmul, ↓xdiv, ↓xrem, ↓xand, ↓xor, ↓xxor, ↓xshl, ↓xshr, ↓xneg, ↓xaddl, ↓xsubl, ↓xmull, ↓xdivl, ↓xreml, ↓xnegl, ↓xi2l, ↓xi2c, ↓xofC, ↓xite, ↓xitel, ↓xiter, ↓xmax, ↓xmin, ↓xabs, ↓xabsl,
    ↓xg, ↓xgR, ↓xgO, ↓oR, ↓xald, ↓xzld, ↓xpld, ↓xlen, ↓xstr, ↓xinst, ↓cNot, ↓cAnd, ↓cOr, ↓cEq, ↓cLt, ↓cGt, ↓cEq0, ↓cLt0, ↓cGt0, ↓cEqL, ↓cLtL, ↓cGtL, ↓cEqO,
    ↓kI, ↓kL, ↓kR, ↓kV, ↓kS, ↓kD_e, ↓kP, ↓kT, ↓CALL_t, ↓vI, ↓vL, ↓vR, ↓aN, ↓aC, aenv_i, aenv_l, aenv_r, aenv_0, List.replicate, Nat.reduceSub, Nat.reduceAdd, eset2, kill, List.set_cons_zero, List.set_cons_succ, List.set_nil, List.getElem?_cons_zero, List.getElem?_cons_succ, List.getElem?_nil, List.mem_cons, List.not_mem_nil, or_false, or_true, true_and, and_true, true_or, false_or, false_and, and_false, not_false_eq_true, not_true_eq_false, forall_const, false_imp_iff, imp_false, true_imp_iff, if_true, if_false, implies_true, reduceIte, reduceCtorEq,
    ↓onO_CF, ↓onO_CT, ↓onI_CT1, ↓onO_CN, ↓onI_CN1, ↓onI_CN2, ↓onI_CN3, ↓onI_CN4, ↓onI_CN5, ↓onI_CN6, ↓onI_CN7, ↓onI_CN8, ↓onO_CS, ↓onI_CS1, ↓onP_CS2, ↓onI_CS3, ↓onI_CS4, ↓onI_CS5, ↓fR_f0, ↓fR_f1, ↓fR_f2, ↓fR_f3, ↓fR_f4, ↓fR_f5, ↓fI_f6, ↓fR_f7, ↓fR_t0, ↓fI_t1, ↓fR_s0, ↓fR_s1, ↓fR_s2, ↓fR_s3, ↓fR_s4, ↓fR_s5, ↓fO_s5, ↓fI_s6, ↓fI_s7, ↓fI_s8, ↓fI_s9, ↓fR_n0, ↓fI_n1, ↓fI_n2, ↓fR_n3, ↓fR_n4, ↓fI_n5, ↓fR_n6, ↓fR_n7, ↓fR_n8, ↓fI_n9, ↓fR_n10, ↓fR_n11, ↓fI_n12,
    CHu_F, CHu_T, CHu_T1, CHu_S5, CHu_S6, CHu_S7, CHu_S8, CHu_S9, CHu_a1, CHu_a2, CHu_a3, CHu_a4, CHu_a5, CHu_N1, CHu_N2, CHu_N5, CHu_N9, CHu_N12, CHu_b1, CHu_b2, CHu_b3, CHu_b4, CHu_b5, CHu_b6, CHu_b7, CHu_b8, ffs_len, tfs_len, sfs_len, nfs_len, sl_i, vuS, vuN, vuV, fS_s, Nat.reduceLT, Nat.reduceEqDiff, Nat.le_refl,
    ↓fI_h0, ↓fI_h1, ↓fR_h2, ↓fR_h3, ↓fI_h4, ↓fR_h5, ↓fI_h6, ↓fR_h7, ↓fR_h8, ↓fI_h9, ↓fI_h10, ↓fI_p0, ↓fI_p1, ↓fR_p2, ↓fO_p3, hfs_s0, hfs_s1, hfs_s4, hfs_s6, hfs_s8, hfs_s9, hfs_s10, hfs_len, pfs_len, pfs_s3, Nat.reduceLT, Nat.reduceEqDiff, nI_add, nI_mulN, lit32, nI_clamp, vp_in_nI, nI_ltI, nI_eq, nI_leI, Nat.reduceMul, Nat.zero_add, Nat.add_zero, ↓xNew, ↓xNewI, ↓xNewZ, ↓xNewP, ↓sObj, ↓kVA, ↓kSA, ↓sCtor, ↓sRetR, ↓CALLA_t, rmOf, Nat.reduceLeDiff, Nat.not_lt_zero, ↓onO_us, ↓onO_un2, List.length_cons, List.length_nil, B_FC_person, M_FC_person, k7, v9, hS, n6]
        have hD := hC.1.newP hN (k := k) (n := n) (v := nI v) (by omega) (by omega)
        obtain ⟨d1, d2, d3⟩ := hD
        have hn65 := hN.1
        have e : fPerson S (nI k) (nI v) = (nI n, newP S n (nI k) (nI v)) := by
          unfold fPerson
          rw [hi, hi2, if_pos rfl, if_pos rfl, hS, if_neg (show ¬ nI n = 6 from fun z => c ((nI_eq (a := n) (b := 6) (by omega) (by omega)).mp z)), hnP]
        have s0 := hC.2.2.1
        have e18 : newP S n (nI k) (nI v) (18 + n) = nI k := by unfold newP; rw [upd_n (by omega), zr_o (by omega), upd_n (by omega), upd_n (by omega), upd_n (by omega), upd_s]
        have e24 : newP S n (nI k) (nI v) (24 + n) = nI v := by unfold newP; rw [upd_n (by omega), zr_o (by omega), upd_n (by omega), upd_n (by omega), upd_s]
        have e11 : nP (newP S n (nI k) (nI v)) = n + 1 := nP_of (by omega) upd_s
        have eo : ∀ j, j ≠ 18 + n → j ≠ 24 + n → j ≠ 30 + n → j ≠ 5 + n → ¬ (36 + 4 * n ≤ j ∧ j < 36 + 4 * n + 4) → j ≠ 11 → newP S n (nI k) (nI v) j = S j := fun j a1 a2 a3 a4 a5 a6 => by unfold newP; rw [upd_n (by omega), zr_o a5, upd_n (by omega), upd_n (by omega), upd_n (by omega), upd_n (by omega)]
        have hsk : SK (vP P nx (k, (n, nI v))) Q (newP S n (nI k) (nI v), (va_up w.1 n (some nx), w.2)) := by
          refine ⟨fun p hp => ?_, ?_⟩
          · by_cases z : p = n
            · subst z
              refine ⟨nx, _, vuS, vP_s, fun _ => ?_⟩
              show _ = (ix (newP S p (nI k) (nI v) (18 + p)), (p, newP S p (nI k) (nI v) (24 + p)))
              rw [e18, e24, ix_nI (by omega)]
            · obtain ⟨a, q, e1, e2, e3⟩ := s0.1 p hp
              refine ⟨a, q, (vuN z).trans e1, d3 _ _ e2, fun hlt => ?_⟩
              have hlt : p < nP (newP S n (nI k) (nI v)) := hlt
              rw [e11] at hlt
              have := e3 (by show p < nP S; omega)
              rw [this]
              show _ = (ix (newP S n (nI k) (nI v) (18 + p)), (p, newP S n (nI k) (nI v) (24 + p)))
              rw [eo (18 + p) (by omega) (by omega) (by omega) (by omega) (by omega) (by omega), eo (24 + p) (by omega) (by omega) (by omega) (by omega) (by omega) (by omega)]
          · have f17 := eo 17 (by omega) (by omega) (by omega) (by omega) (by omega) (by omega)
            have fh : ∀ j, 200 ≤ j → newP S n (nI k) (nI v) j = S j := fun j hj => eo j (by omega) (by omega) (by omega) (by omega) (by omega) (by omega)
            have ho : hold (newP S n (nI k) (nI v)) = hold S := by unfold hold; rw [f17]
            have ht : ∀ u nn, 200 ≤ u → sTells (newP S n (nI k) (nI v)) u nn = sTells S u nn := fun u nn hu => by unfold sTells; rw [f17, ho, fh _ (by omega)]
            have hp : progS (newP S n (nI k) (nI v)) = progS S := by
              unfold progS
              rw [f17, ho, fh (210 + hold S) (by omega)]
              split
              · rfl
              · exact List.map_congr_left (fun j _ => fh _ (by omega))
            show Q w.2 = some (sTells (newP S n (nI k) (nI v)) 200 3, (sTells (newP S n (nI k) (nI v)) 205 1, progS (newP S n (nI k) (nI v))))
            rw [ht _ _ (by omega), ht _ _ (by omega), hp]
            exact s0.2
        have hpn : PN (newP S n (nI k) (nI v), (va_up w.1 n (some nx), w.2)) := fun p hp => by
          show va_up w.1 n (some nx) p = none
          rw [vuN (by omega)]
          exact hC.2.2.2.1 p hp
        have hK := h1 k v n nx (by omega) hv (by omega) rfl hnP e d1 d2 d3 hsk hpn
        refine t_newP (by omega) (by omega) ?_
        rw [PN0_CH hn65]
        have hon : ∀ (st' : Nat → SR) (P' : Nat → List Value → Prop), onO (CH X (PN0 X dh nx k n (nI v)) st' (va_up nt 0 S) t im nx) P' = P' (4 + k) (pfs nx (k, (n, nI v)) none) := fun st' P' => onO_h (by rw [CH_D (Or.inr hn65)]; unfold PN0; rw [up_n (by omega), up_s])
        have hin := cl_in (k := k) (by omega)
        generalize PN0 X dh nx k n (nI v) = dh1 at hK hon ⊢
        simp (disch := first | omega | rfl | (simp (disch := omega) only [vuS, vuN])) only [↓sSeq, ↓sI_f, ↓sL_f, ↓sR_f, ↓sInc_f, fE_c, eset_0, eset_1i, eset_1r, eset_1n, eset_1l, eset_ss, ↓sIf, ↓sBrk, ↓sCnt, ↓sRetI, ↓sRetL, ↓sRetR, ↓sRet, ↓sRetZ, ↓sSkip, ↓sSw, ↓sK, ↓sPop, ↓sFor_t, ↓sast, ↓sastC, ↓szst, ↓spst, ↓sput, ↓sputZ, ↓sputR, ↓sputN, ↓sputC, ↓sCopy,
    ↓xi, ↓xl, ↓xr, ↓xc, ↓xcl, ↓xadd, ↓xsub, ↓xmul, ↓xdiv, ↓xrem, ↓xand, ↓xor, ↓xxor, ↓xshl, ↓xshr, ↓xneg, ↓xaddl, ↓xsubl, ↓xmull, ↓xdivl, ↓xreml, ↓xnegl, ↓xi2l, ↓xi2c, ↓xofC, ↓xite, ↓xitel, ↓xiter, ↓xmax, ↓xmin, ↓xabs, ↓xabsl,
    ↓xg, ↓xgR, ↓xgO, ↓oR, ↓xald, ↓xzld, ↓xpld, ↓xlen, ↓xstr, ↓xinst, ↓cNot, ↓cAnd, ↓cOr, ↓cEq, ↓cLt, ↓cGt, ↓cEq0, ↓cLt0, ↓cGt0, ↓cEqL, ↓cLtL, ↓cGtL, ↓cEqO,
    ↓kI, ↓kL, ↓kR, ↓kV, ↓kS, ↓kD_e, ↓kP, ↓kT, ↓CALL_t, ↓vI, ↓vL, ↓vR, ↓aN, ↓aC, aenv_i, aenv_l, aenv_r, aenv_0, List.replicate, Nat.reduceSub, Nat.reduceAdd, eset2, kill, List.set_cons_zero, List.set_cons_succ, List.set_nil, List.getElem?_cons_zero, List.getElem?_cons_succ, List.getElem?_nil, List.mem_cons, List.not_mem_nil, or_false, or_true, true_and, and_true, true_or, false_or, false_and, and_false, not_false_eq_true, not_true_eq_false, forall_const, false_imp_iff, imp_false, true_imp_iff, if_true, if_false, implies_true, reduceIte, reduceCtorEq,
    ↓onO_CF, ↓onO_CT, ↓onI_CT1, ↓onO_CN, ↓onI_CN1, ↓onI_CN2, ↓onI_CN3, ↓onI_CN4, ↓onI_CN5, ↓onI_CN6, ↓onI_CN7, ↓onI_CN8, ↓onO_CS, ↓onI_CS1, ↓onP_CS2, ↓onI_CS3, ↓onI_CS4, ↓onI_CS5, ↓fR_f0, ↓fR_f1, ↓fR_f2, ↓fR_f3, ↓fR_f4, ↓fR_f5, ↓fI_f6, ↓fR_f7, ↓fR_t0, ↓fI_t1, ↓fR_s0, ↓fR_s1, ↓fR_s2, ↓fR_s3, ↓fR_s4, ↓fR_s5, ↓fO_s5, ↓fI_s6, ↓fI_s7, ↓fI_s8, ↓fI_s9, ↓fR_n0, ↓fI_n1, ↓fI_n2, ↓fR_n3, ↓fR_n4, ↓fI_n5, ↓fR_n6, ↓fR_n7, ↓fR_n8, ↓fI_n9, ↓fR_n10, ↓fR_n11, ↓fI_n12,
    CHu_F, CHu_T, CHu_T1, CHu_S5, CHu_S6, CHu_S7, CHu_S8, CHu_S9, CHu_a1, CHu_a2, CHu_a3, CHu_a4, CHu_a5, CHu_N1, CHu_N2, CHu_N5, CHu_N9, CHu_N12, CHu_b1, CHu_b2, CHu_b3, CHu_b4, CHu_b5, CHu_b6, CHu_b7, CHu_b8, ffs_len, tfs_len, sfs_len, nfs_len, sl_i, vuS, vuN, vuV, fS_s, Nat.reduceLT, Nat.reduceEqDiff, Nat.le_refl,
    ↓fI_h0, ↓fI_h1, ↓fR_h2, ↓fR_h3, ↓fI_h4, ↓fR_h5, ↓fI_h6, ↓fR_h7, ↓fR_h8, ↓fI_h9, ↓fI_h10, ↓fI_p0, ↓fI_p1, ↓fR_p2, ↓fO_p3, hfs_s0, hfs_s1, hfs_s4, hfs_s6, hfs_s8, hfs_s9, hfs_s10, hfs_len, pfs_len, pfs_s3, Nat.reduceLT, Nat.reduceEqDiff, nI_add, nI_mulN, lit32, nI_clamp, vp_in_nI, nI_ltI, nI_eq, nI_leI, Nat.reduceMul, Nat.zero_add, Nat.add_zero, ↓xNew, ↓xNewI, ↓xNewZ, ↓xNewP, ↓sObj, ↓kVA, ↓kSA, ↓sCtor, ↓sRetR, ↓CALLA_t, rmOf, Nat.reduceLeDiff, Nat.not_lt_zero, ↓onO_us, ↓onO_un2, List.length_cons, List.length_nil, ↓hon, hin, hS]
        generalize hS2 : upd (upd S (30 + n) (nI 0)) (5 + n) (nI 0) = S2
        have g11 : S2 11 = nI n := by rw [← hS2, upd_n (by omega), upd_n (by omega), hS]
        have gS : ∀ j, j < 60 → j ≠ 11 → ¬ (18 ≤ j ∧ j < 30) → zr S2 (36 + 4 * n) 4 j = newP S n (nI k) (nI v) j := fun j a1 a2 a3 => by
          unfold newP
          rw [upd_n a2, ← hS2]
          unfold zr
          by_cases z : 36 + 4 * n ≤ j ∧ j < 36 + 4 * n + 4
          · rw [if_pos z, if_pos z]
          · rw [if_neg z, if_neg z]
            by_cases z1 : j = 5 + n
            · subst z1; rw [upd_s, upd_s]; rfl
            · rw [upd_n z1, upd_n z1]
              by_cases z2 : j = 30 + n
              · subst z2; rw [upd_s, upd_s]; rfl
              · rw [upd_n z2, upd_n z2, upd_n (by omega), upd_n (by omega)]
        refine for_rule (fun m env σ => ∃ (p : Nat), p + m = 4 ∧ env = [some (.ref (bA X)), some (.int (nI k)), some (.int (nI v)), some (.int (nI n)), some (.int (nI p))] ∧ σ = (CH X dh1 (va_up st 0 (zr S2 (36 + 4 * n) p, (va_up w.1 n (some nx), w.2))) (va_up nt 0 S) t im, (nx + 2, (2, 144)))) 4 ⟨0, by omega, rfl, by rw [zr_0]⟩ ?_
        rintro m env σ P' ⟨p, hp, rfl, rfl⟩ hP
        simp (disch := first | omega | rfl | (simp (disch := omega) only [vuS, vuN])) only [↓sSeq, ↓sI_f, ↓sL_f, ↓sR_f, ↓sInc_f, fE_c, eset_0, eset_1i, eset_1r, eset_1n, eset_1l, eset_ss, ↓sIf, ↓sBrk, ↓sCnt, ↓sRetI, ↓sRetL, ↓sRetR, ↓sRet, ↓sRetZ, ↓sSkip, ↓sSw, ↓sK, ↓sPop, ↓sFor_t, ↓sast, ↓sastC, ↓szst, ↓spst, ↓sput, ↓sputZ, ↓sputR, ↓sputN, ↓sputC, ↓sCopy,
    ↓xi, ↓xl, ↓xr, ↓xc, ↓xcl, ↓xadd, ↓xsub, ↓xmul, ↓xdiv, ↓xrem, ↓xand, ↓xor, ↓xxor, ↓xshl, ↓xshr, ↓xneg, ↓xaddl, ↓xsubl, ↓xmull, ↓xdivl, ↓xreml, ↓xnegl, ↓xi2l, ↓xi2c, ↓xofC, ↓xite, ↓xitel, ↓xiter, ↓xmax, ↓xmin, ↓xabs, ↓xabsl,
    ↓xg, ↓xgR, ↓xgO, ↓oR, ↓xald, ↓xzld, ↓xpld, ↓xlen, ↓xstr, ↓xinst, ↓cNot, ↓cAnd, ↓cOr, ↓cEq, ↓cLt, ↓cGt, ↓cEq0, ↓cLt0, ↓cGt0, ↓cEqL, ↓cLtL, ↓cGtL, ↓cEqO,
    ↓kI, ↓kL, ↓kR, ↓kV, ↓kS, ↓kD_e, ↓kP, ↓kT, ↓CALL_t, ↓vI, ↓vL, ↓vR, ↓aN, ↓aC, aenv_i, aenv_l, aenv_r, aenv_0, List.replicate, Nat.reduceSub, Nat.reduceAdd, eset2, kill, List.set_cons_zero, List.set_cons_succ, List.set_nil, List.getElem?_cons_zero, List.getElem?_cons_succ, List.getElem?_nil, List.mem_cons, List.not_mem_nil, or_false, or_true, true_and, and_true, true_or, false_or, false_and, and_false, not_false_eq_true, not_true_eq_false, forall_const, false_imp_iff, imp_false, true_imp_iff, if_true, if_false, implies_true, reduceIte, reduceCtorEq,
    ↓onO_CF, ↓onO_CT, ↓onI_CT1, ↓onO_CN, ↓onI_CN1, ↓onI_CN2, ↓onI_CN3, ↓onI_CN4, ↓onI_CN5, ↓onI_CN6, ↓onI_CN7, ↓onI_CN8, ↓onO_CS, ↓onI_CS1, ↓onP_CS2, ↓onI_CS3, ↓onI_CS4, ↓onI_CS5, ↓fR_f0, ↓fR_f1, ↓fR_f2, ↓fR_f3, ↓fR_f4, ↓fR_f5, ↓fI_f6, ↓fR_f7, ↓fR_t0, ↓fI_t1, ↓fR_s0, ↓fR_s1, ↓fR_s2, ↓fR_s3, ↓fR_s4, ↓fR_s5, ↓fO_s5, ↓fI_s6, ↓fI_s7, ↓fI_s8, ↓fI_s9, ↓fR_n0, ↓fI_n1, ↓fI_n2, ↓fR_n3, ↓fR_n4, ↓fI_n5, ↓fR_n6, ↓fR_n7, ↓fR_n8, ↓fI_n9, ↓fR_n10, ↓fR_n11, ↓fI_n12,
    CHu_F, CHu_T, CHu_T1, CHu_S5, CHu_S6, CHu_S7, CHu_S8, CHu_S9, CHu_a1, CHu_a2, CHu_a3, CHu_a4, CHu_a5, CHu_N1, CHu_N2, CHu_N5, CHu_N9, CHu_N12, CHu_b1, CHu_b2, CHu_b3, CHu_b4, CHu_b5, CHu_b6, CHu_b7, CHu_b8, ffs_len, tfs_len, sfs_len, nfs_len, sl_i, vuS, vuN, vuV, fS_s, Nat.reduceLT, Nat.reduceEqDiff, Nat.le_refl,
    ↓fI_h0, ↓fI_h1, ↓fR_h2, ↓fR_h3, ↓fI_h4, ↓fR_h5, ↓fI_h6, ↓fR_h7, ↓fR_h8, ↓fI_h9, ↓fI_h10, ↓fI_p0, ↓fI_p1, ↓fR_p2, ↓fO_p3, hfs_s0, hfs_s1, hfs_s4, hfs_s6, hfs_s8, hfs_s9, hfs_s10, hfs_len, pfs_len, pfs_s3, Nat.reduceLT, Nat.reduceEqDiff, nI_add, nI_mulN, lit32, nI_clamp, vp_in_nI, nI_ltI, nI_eq, nI_leI, Nat.reduceMul, Nat.zero_add, Nat.add_zero, ↓xNew, ↓xNewI, ↓xNewZ, ↓xNewP, ↓sObj, ↓kVA, ↓kSA, ↓sCtor, ↓sRetR, ↓CALLA_t, rmOf, Nat.reduceLeDiff, Nat.not_lt_zero, ↓onO_us, ↓onO_un2, List.length_cons, List.length_nil]
        refine ⟨fun q => ?_, fun q => ?_⟩
        · have hz : upd (zr S2 (36 + 4 * n) p) (36 + (n * 4 + p)) (nI 0) = zr S2 (36 + 4 * n) (p + 1) := by
            rw [show 36 + (n * 4 + p) = 36 + 4 * n + p by omega]; exact zr_up
          simp (disch := first | omega | rfl | (simp (disch := omega) only [vuS, vuN])) only [↓sSeq, ↓sI_f, ↓sL_f, ↓sR_f, ↓sInc_f, fE_c, eset_0, eset_1i, eset_1r, eset_1n, eset_1l, eset_ss, ↓sIf, ↓sBrk, ↓sCnt, ↓sRetI, ↓sRetL, ↓sRetR, ↓sRet, ↓sRetZ, ↓sSkip, ↓sSw, ↓sK, ↓sPop, ↓sFor_t, ↓sast, ↓sastC, ↓szst, ↓spst, ↓sput, ↓sputZ, ↓sputR, ↓sputN, ↓sputC, ↓sCopy,
    ↓xi, ↓xl, ↓xr, ↓xc, ↓xcl, ↓xadd, ↓xsub, ↓xmul, ↓xdiv, ↓xrem, ↓xand, ↓xor, ↓xxor, ↓xshl, ↓xshr, ↓xneg, ↓xaddl, ↓xsubl, ↓xmull, ↓xdivl, ↓xreml, ↓xnegl, ↓xi2l, ↓xi2c, ↓xofC, ↓xite, ↓xitel, ↓xiter, ↓xmax, ↓xmin, ↓xabs, ↓xabsl,
    ↓xg, ↓xgR, ↓xgO, ↓oR, ↓xald, ↓xzld, ↓xpld, ↓xlen, ↓xstr, ↓xinst, ↓cNot, ↓cAnd, ↓cOr, ↓cEq, ↓cLt, ↓cGt, ↓cEq0, ↓cLt0, ↓cGt0, ↓cEqL, ↓cLtL, ↓cGtL, ↓cEqO,
    ↓kI, ↓kL, ↓kR, ↓kV, ↓kS, ↓kD_e, ↓kP, ↓kT, ↓CALL_t, ↓vI, ↓vL, ↓vR, ↓aN, ↓aC, aenv_i, aenv_l, aenv_r, aenv_0, List.replicate, Nat.reduceSub, Nat.reduceAdd, eset2, kill, List.set_cons_zero, List.set_cons_succ, List.set_nil, List.getElem?_cons_zero, List.getElem?_cons_succ, List.getElem?_nil, List.mem_cons, List.not_mem_nil, or_false, or_true, true_and, and_true, true_or, false_or, false_and, and_false, not_false_eq_true, not_true_eq_false, forall_const, false_imp_iff, imp_false, true_imp_iff, if_true, if_false, implies_true, reduceIte, reduceCtorEq,
    ↓onO_CF, ↓onO_CT, ↓onI_CT1, ↓onO_CN, ↓onI_CN1, ↓onI_CN2, ↓onI_CN3, ↓onI_CN4, ↓onI_CN5, ↓onI_CN6, ↓onI_CN7, ↓onI_CN8, ↓onO_CS, ↓onI_CS1, ↓onP_CS2, ↓onI_CS3, ↓onI_CS4, ↓onI_CS5, ↓fR_f0, ↓fR_f1, ↓fR_f2, ↓fR_f3, ↓fR_f4, ↓fR_f5, ↓fI_f6, ↓fR_f7, ↓fR_t0, ↓fI_t1, ↓fR_s0, ↓fR_s1, ↓fR_s2, ↓fR_s3, ↓fR_s4, ↓fR_s5, ↓fO_s5, ↓fI_s6, ↓fI_s7, ↓fI_s8, ↓fI_s9, ↓fR_n0, ↓fI_n1, ↓fI_n2, ↓fR_n3, ↓fR_n4, ↓fI_n5, ↓fR_n6, ↓fR_n7, ↓fR_n8, ↓fI_n9, ↓fR_n10, ↓fR_n11, ↓fI_n12,
    CHu_F, CHu_T, CHu_T1, CHu_S5, CHu_S6, CHu_S7, CHu_S8, CHu_S9, CHu_a1, CHu_a2, CHu_a3, CHu_a4, CHu_a5, CHu_N1, CHu_N2, CHu_N5, CHu_N9, CHu_N12, CHu_b1, CHu_b2, CHu_b3, CHu_b4, CHu_b5, CHu_b6, CHu_b7, CHu_b8, ffs_len, tfs_len, sfs_len, nfs_len, sl_i, vuS, vuN, vuV, fS_s, Nat.reduceLT, Nat.reduceEqDiff, Nat.le_refl,
    ↓fI_h0, ↓fI_h1, ↓fR_h2, ↓fR_h3, ↓fI_h4, ↓fR_h5, ↓fI_h6, ↓fR_h7, ↓fR_h8, ↓fI_h9, ↓fI_h10, ↓fI_p0, ↓fI_p1, ↓fR_p2, ↓fO_p3, hfs_s0, hfs_s1, hfs_s4, hfs_s6, hfs_s8, hfs_s9, hfs_s10, hfs_len, pfs_len, pfs_s3, Nat.reduceLT, Nat.reduceEqDiff, nI_add, nI_mulN, lit32, nI_clamp, vp_in_nI, nI_ltI, nI_eq, nI_leI, Nat.reduceMul, Nat.zero_add, Nat.add_zero, ↓xNew, ↓xNewI, ↓xNewZ, ↓xNewP, ↓sObj, ↓kVA, ↓kSA, ↓sCtor, ↓sRetR, ↓CALLA_t, rmOf, Nat.reduceLeDiff, Nat.not_lt_zero, ↓onO_us, ↓onO_un2, List.length_cons, List.length_nil, L_FC_person_1, hz]
          exact hP (m - 1) _ _ (by omega) ⟨p + 1, by omega, rfl, rfl⟩
        · have : p = 4 := by omega
          subst this
          have e : zr S2 (36 + 4 * n) 4 11 = nI n := by rw [zr_o (by omega), g11]
          simp (disch := first | omega | rfl | (simp (disch := omega) only [vuS, vuN])) only [↓sSeq, ↓sI_f, ↓sL_f, ↓sR_f, ↓sInc_f, fE_c, eset_0, eset_1i, eset_1r, eset_1n, eset_1l, eset_ss, ↓sIf, ↓sBrk, ↓sCnt, ↓sRetI, ↓sRetL, ↓sRetR, ↓sRet, ↓sRetZ, ↓sSkip, ↓sSw, ↓sK, ↓sPop, ↓sFor_t, ↓sast, ↓sastC, ↓szst, ↓spst, ↓sput, ↓sputZ, ↓sputR, ↓sputN, ↓sputC, ↓sCopy,
    ↓xi, ↓xl, ↓xr, ↓xc, ↓xcl, ↓xadd, ↓xsub, ↓xmul, ↓xdiv, ↓xrem, ↓xand, ↓xor, ↓xxor, ↓xshl, ↓xshr, ↓xneg, ↓xaddl, ↓xsubl, ↓xmull, ↓xdivl, ↓xreml, ↓xnegl, ↓xi2l, ↓xi2c, ↓xofC, ↓xite, ↓xitel, ↓xiter, ↓xmax, ↓xmin, ↓xabs, ↓xabsl,
    ↓xg, ↓xgR, ↓xgO, ↓oR, ↓xald, ↓xzld, ↓xpld, ↓xlen, ↓xstr, ↓xinst, ↓cNot, ↓cAnd, ↓cOr, ↓cEq, ↓cLt, ↓cGt, ↓cEq0, ↓cLt0, ↓cGt0, ↓cEqL, ↓cLtL, ↓cGtL, ↓cEqO,
    ↓kI, ↓kL, ↓kR, ↓kV, ↓kS, ↓kD_e, ↓kP, ↓kT, ↓CALL_t, ↓vI, ↓vL, ↓vR, ↓aN, ↓aC, aenv_i, aenv_l, aenv_r, aenv_0, List.replicate, Nat.reduceSub, Nat.reduceAdd, eset2, kill, List.set_cons_zero, List.set_cons_succ, List.set_nil, List.getElem?_cons_zero, List.getElem?_cons_succ, List.getElem?_nil, List.mem_cons, List.not_mem_nil, or_false, or_true, true_and, and_true, true_or, false_or, false_and, and_false, not_false_eq_true, not_true_eq_false, forall_const, false_imp_iff, imp_false, true_imp_iff, if_true, if_false, implies_true, reduceIte, reduceCtorEq,
    ↓onO_CF, ↓onO_CT, ↓onI_CT1, ↓onO_CN, ↓onI_CN1, ↓onI_CN2, ↓onI_CN3, ↓onI_CN4, ↓onI_CN5, ↓onI_CN6, ↓onI_CN7, ↓onI_CN8, ↓onO_CS, ↓onI_CS1, ↓onP_CS2, ↓onI_CS3, ↓onI_CS4, ↓onI_CS5, ↓fR_f0, ↓fR_f1, ↓fR_f2, ↓fR_f3, ↓fR_f4, ↓fR_f5, ↓fI_f6, ↓fR_f7, ↓fR_t0, ↓fI_t1, ↓fR_s0, ↓fR_s1, ↓fR_s2, ↓fR_s3, ↓fR_s4, ↓fR_s5, ↓fO_s5, ↓fI_s6, ↓fI_s7, ↓fI_s8, ↓fI_s9, ↓fR_n0, ↓fI_n1, ↓fI_n2, ↓fR_n3, ↓fR_n4, ↓fI_n5, ↓fR_n6, ↓fR_n7, ↓fR_n8, ↓fI_n9, ↓fR_n10, ↓fR_n11, ↓fI_n12,
    CHu_F, CHu_T, CHu_T1, CHu_S5, CHu_S6, CHu_S7, CHu_S8, CHu_S9, CHu_a1, CHu_a2, CHu_a3, CHu_a4, CHu_a5, CHu_N1, CHu_N2, CHu_N5, CHu_N9, CHu_N12, CHu_b1, CHu_b2, CHu_b3, CHu_b4, CHu_b5, CHu_b6, CHu_b7, CHu_b8, ffs_len, tfs_len, sfs_len, nfs_len, sl_i, vuS, vuN, vuV, fS_s, Nat.reduceLT, Nat.reduceEqDiff, Nat.le_refl,
    ↓fI_h0, ↓fI_h1, ↓fR_h2, ↓fR_h3, ↓fI_h4, ↓fR_h5, ↓fI_h6, ↓fR_h7, ↓fR_h8, ↓fI_h9, ↓fI_h10, ↓fI_p0, ↓fI_p1, ↓fR_p2, ↓fO_p3, hfs_s0, hfs_s1, hfs_s4, hfs_s6, hfs_s8, hfs_s9, hfs_s10, hfs_len, pfs_len, pfs_s3, Nat.reduceLT, Nat.reduceEqDiff, nI_add, nI_mulN, lit32, nI_clamp, vp_in_nI, nI_ltI, nI_eq, nI_leI, Nat.reduceMul, Nat.zero_add, Nat.add_zero, ↓xNew, ↓xNewI, ↓xNewZ, ↓xNewP, ↓sObj, ↓kVA, ↓kSA, ↓sCtor, ↓sRetR, ↓CALLA_t, rmOf, Nat.reduceLeDiff, Nat.not_lt_zero, ↓onO_us, ↓onO_un2, List.length_cons, List.length_nil, e]
          refine Eq.mp (congrArg (fun H => K (some (.int (nI n))) H (nx + 2)) ?_) hK
          unfold CS
          rw [CH_nt (S := newP S n (nI k) (nI v)) (S' := S) (by omega) (fun j a1 a2 => eo j (by omega) (by omega) (by omega) (by omega) (by omega) (by omega)) (fun j a1 a2 => eo j (by omega) (by omega) (by omega) (by omega) (by omega) (by omega))]
          refine CH_st (by omega) (fun j a1 => ?_) (fun j a1 a2 => ?_)
          · by_cases z : j = 11
            · subst z; rw [upd_s]; exact upd_s
            · rw [upd_n z, gS j (by omega) z (by omega)]
          · rw [upd_n (by omega), gS j (by omega) (by omega) (by omega)]
end PERC
