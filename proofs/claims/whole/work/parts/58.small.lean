section SML
variable {X : WX} {d : Nat} {h : HM} {K : Option Value → HM → Prop} {P : Nat → Option PD} {Q : Nat → Option HDs} {dh : HM} {st : Nat → SR} {nt : Nat → Nat → Int32} {t : Nat × (Nat → Int32)} {im : Int32}
theorem isIn_c {v lo hi : Int32} : isIn v lo hi = true ↔ (¬ v < lo ∧ ¬ hi < v) := by
  unfold isIn
  rw [Bool.and_eq_true, decide_eq_true_iff, decide_eq_true_iff, Int32.not_lt, Int32.not_lt]
theorem isIn_x {v lo hi hi' : Int32} (e : hi'.toInt = hi.toInt + 1) : isIn v lo hi = true ↔ (¬ v < lo ∧ v < hi') := by
  rw [isIn_c, Int32.not_lt (a := hi), Int32.le_iff_toInt_le, Int32.lt_iff_toInt_lt (x := v) (y := hi')]
  constructor <;> (rintro ⟨h1, h2⟩; exact ⟨h1, by omega⟩)
theorem bK {b : Bool} {p : Prop} (e : b = true ↔ p) {F : Value → Prop} (hK : F (.int (bI b))) : (p → F (.int (nI 1))) ∧ (¬ p → F (.int (nI 0))) := by
  constructor
  · intro hp
    rw [e.mpr hp] at hK; exact hK
  · intro hp
    have : b = false := by cases b with
      | false => rfl
      | true => exact absurd (e.mp rfl) hp
    rw [this] at hK; exact hK
theorem u_isClock (hd : 1 ≤ d) {v : Int32} (hK : K (some (.int (bI (isIn v 0 1)))) h) : CALL X M_FC_isClock d [.int v] h K := by
  obtain ⟨d, rfl⟩ : ∃ e, d = e + 1 := ⟨d - 1, by omega⟩
  refine call_of (by decide +kernel) (by decide) (F_FC_isClock X d) (Nat.le_of_ble_eq_true rfl) ?_
  intro g
  simp (disch := first | omega | rfl | (simp (disch := omega) only [vuS, vuN])) only [↓sSeq, ↓sI_f, ↓sL_f, ↓sR_f, ↓sInc_f, fE_c, eset_0, eset_1i, eset_1r, eset_1n, eset_1l, eset_ss, ↓sIf, ↓sBrk, ↓sCnt, ↓sRetI, ↓sRetL, ↓sRetR, ↓sRet, ↓sRetZ, ↓sSkip, ↓sSw, ↓sK, ↓sPop, ↓sFor_t, ↓sast, ↓sastC, ↓szst, ↓spst, ↓sput, ↓sputZ, ↓sputR, ↓sputN, ↓sputC, ↓sCopy,
    ↓xi, ↓xl, ↓xr, ↓xc, ↓xcl, ↓xadd, ↓xsub, ↓xmul, ↓xdiv, ↓xrem, ↓xand, ↓xor, ↓xxor, ↓xshl, ↓xshr, ↓xneg, ↓xaddl, ↓xsubl, ↓xmull, ↓xdivl, ↓xreml, ↓xnegl, ↓xi2l, ↓xi2c, ↓xofC, ↓xite, ↓xitel, ↓xiter, ↓xmax, ↓xmin, ↓xabs, ↓xabsl,
    ↓xg, ↓xgR, ↓xgO, ↓oR, ↓xald, ↓xzld, ↓xpld, ↓xlen, ↓xstr, ↓xinst, ↓cNot, ↓cAnd, ↓cOr, ↓cEq, ↓cLt, ↓cGt, ↓cEq0, ↓cLt0, ↓cGt0, ↓cEqL, ↓cLtL, ↓cGtL, ↓cEqO,
    ↓kI, ↓kL, ↓kR, ↓kV, ↓kS, ↓kD_e, ↓kP, ↓kT, ↓CALL_t, ↓vI, ↓vL, ↓vR, ↓aN, ↓aC, aenv_i, aenv_l, aenv_r, aenv_0, List.replicate, Nat.reduceSub, Nat.reduceAdd, eset2, kill, List.set_cons_zero, List.set_cons_succ, List.set_nil, List.getElem?_cons_zero, List.getElem?_cons_succ, List.getElem?_nil, List.mem_cons, List.not_mem_nil, or_false, or_true, true_and, and_true, true_or, false_or, false_and, and_false, not_false_eq_true, not_true_eq_false, forall_const, false_imp_iff, imp_false, true_imp_iff, if_true, if_false, implies_true, reduceIte, reduceCtorEq,
    ↓onO_CF, ↓onO_CT, ↓onI_CT1, ↓onO_CN, ↓onI_CN1, ↓onI_CN2, ↓onI_CN3, ↓onI_CN4, ↓onI_CN5, ↓onI_CN6, ↓onI_CN7, ↓onI_CN8, ↓onO_CS, ↓onI_CS1, ↓onP_CS2, ↓onI_CS3, ↓onI_CS4, ↓onI_CS5, ↓fR_f0, ↓fR_f1, ↓fR_f2, ↓fR_f3, ↓fR_f4, ↓fR_f5, ↓fI_f6, ↓fR_f7, ↓fR_t0, ↓fI_t1, ↓fR_s0, ↓fR_s1, ↓fR_s2, ↓fR_s3, ↓fR_s4, ↓fR_s5, ↓fO_s5, ↓fI_s6, ↓fI_s7, ↓fI_s8, ↓fI_s9, ↓fR_n0, ↓fI_n1, ↓fI_n2, ↓fR_n3, ↓fR_n4, ↓fI_n5, ↓fR_n6, ↓fR_n7, ↓fR_n8, ↓fI_n9, ↓fR_n10, ↓fR_n11, ↓fI_n12,
    CHu_F, CHu_T, CHu_T1, CHu_S5, CHu_S6, CHu_S7, CHu_S8, CHu_S9, CHu_a1, CHu_a2, CHu_a3, CHu_a4, CHu_a5, CHu_N1, CHu_N2, CHu_N5, CHu_N9, CHu_N12, CHu_b1, CHu_b2, CHu_b3, CHu_b4, CHu_b5, CHu_b6, CHu_b7, CHu_b8, ffs_len, tfs_len, sfs_len, nfs_len, sl_i, vuS, vuN, vuV, fS_s, Nat.reduceLT, Nat.reduceEqDiff, Nat.le_refl, nI_add, nI_mulN, lit32, nI_clamp, vp_in_nI, nI_ltI, nI_eq, nI_leI, Nat.reduceMul, Nat.zero_add, Nat.add_zero, B_FC_isClock, M_FC_isClock]
  have := bK (isIn_x (v := v) (lo := nI 0) (hi := nI 1) (hi' := nI 2) rfl) (F := fun x => K (some x) h) hK
  exact ⟨fun c => this.2 (fun q => q.1 c), fun c => ⟨fun c2 => this.1 ⟨c, c2⟩, fun c2 => this.2 (fun q => c2 q.2)⟩⟩
theorem u_isFast (hd : 1 ≤ d) {v : Int32} (hK : K (some (.int (bI (isIn v (-60) 60)))) h) : CALL X M_FC_isFast d [.int v] h K := by
  obtain ⟨d, rfl⟩ : ∃ e, d = e + 1 := ⟨d - 1, by omega⟩
  refine call_of (by decide +kernel) (by decide) (F_FC_isFast X d) (Nat.le_of_ble_eq_true rfl) ?_
  intro g
  simp (disch := first | omega | rfl | (simp (disch := omega) only [vuS, vuN])) only [↓sSeq, ↓sI_f, ↓sL_f, ↓sR_f, ↓sInc_f, fE_c, eset_0, eset_1i, eset_1r, eset_1n, eset_1l, eset_ss, ↓sIf, ↓sBrk, ↓sCnt, ↓sRetI, ↓sRetL, ↓sRetR, ↓sRet, ↓sRetZ, ↓sSkip, ↓sSw, ↓sK, ↓sPop, ↓sFor_t, ↓sast, ↓sastC, ↓szst, ↓spst, ↓sput, ↓sputZ, ↓sputR, ↓sputN, ↓sputC, ↓sCopy,
    ↓xi, ↓xl, ↓xr, ↓xc, ↓xcl, ↓xadd, ↓xsub, ↓xmul, ↓xdiv, ↓xrem, ↓xand, ↓xor, ↓xxor, ↓xshl, ↓xshr, ↓xneg, ↓xaddl, ↓xsubl, ↓xmull, ↓xdivl, ↓xreml, ↓xnegl, ↓xi2l, ↓xi2c, ↓xofC, ↓xite, ↓xitel, ↓xiter, ↓xmax, ↓xmin, ↓xabs, ↓xabsl,
    ↓xg, ↓xgR, ↓xgO, ↓oR, ↓xald, ↓xzld, ↓xpld, ↓xlen, ↓xstr, ↓xinst, ↓cNot, ↓cAnd, ↓cOr, ↓cEq, ↓cLt, ↓cGt, ↓cEq0, ↓cLt0, ↓cGt0, ↓cEqL, ↓cLtL, ↓cGtL, ↓cEqO,
    ↓kI, ↓kL, ↓kR, ↓kV, ↓kS, ↓kD_e, ↓kP, ↓kT, ↓CALL_t, ↓vI, ↓vL, ↓vR, ↓aN, ↓aC, aenv_i, aenv_l, aenv_r, aenv_0, List.replicate, Nat.reduceSub, Nat.reduceAdd, eset2, kill, List.set_cons_zero, List.set_cons_succ, List.set_nil, List.getElem?_cons_zero, List.getElem?_cons_succ, List.getElem?_nil, List.mem_cons, List.not_mem_nil, or_false, or_true, true_and, and_true, true_or, false_or, false_and, and_false, not_false_eq_true, not_true_eq_false, forall_const, false_imp_iff, imp_false, true_imp_iff, if_true, if_false, implies_true, reduceIte, reduceCtorEq,
    ↓onO_CF, ↓onO_CT, ↓onI_CT1, ↓onO_CN, ↓onI_CN1, ↓onI_CN2, ↓onI_CN3, ↓onI_CN4, ↓onI_CN5, ↓onI_CN6, ↓onI_CN7, ↓onI_CN8, ↓onO_CS, ↓onI_CS1, ↓onP_CS2, ↓onI_CS3, ↓onI_CS4, ↓onI_CS5, ↓fR_f0, ↓fR_f1, ↓fR_f2, ↓fR_f3, ↓fR_f4, ↓fR_f5, ↓fI_f6, ↓fR_f7, ↓fR_t0, ↓fI_t1, ↓fR_s0, ↓fR_s1, ↓fR_s2, ↓fR_s3, ↓fR_s4, ↓fR_s5, ↓fO_s5, ↓fI_s6, ↓fI_s7, ↓fI_s8, ↓fI_s9, ↓fR_n0, ↓fI_n1, ↓fI_n2, ↓fR_n3, ↓fR_n4, ↓fI_n5, ↓fR_n6, ↓fR_n7, ↓fR_n8, ↓fI_n9, ↓fR_n10, ↓fR_n11, ↓fI_n12,
    CHu_F, CHu_T, CHu_T1, CHu_S5, CHu_S6, CHu_S7, CHu_S8, CHu_S9, CHu_a1, CHu_a2, CHu_a3, CHu_a4, CHu_a5, CHu_N1, CHu_N2, CHu_N5, CHu_N9, CHu_N12, CHu_b1, CHu_b2, CHu_b3, CHu_b4, CHu_b5, CHu_b6, CHu_b7, CHu_b8, ffs_len, tfs_len, sfs_len, nfs_len, sl_i, vuS, vuN, vuV, fS_s, Nat.reduceLT, Nat.reduceEqDiff, Nat.le_refl, nI_add, nI_mulN, lit32, nI_clamp, vp_in_nI, nI_ltI, nI_eq, nI_leI, Nat.reduceMul, Nat.zero_add, Nat.add_zero, B_FC_isFast, M_FC_isFast]
  have := bK (isIn_c (v := v) (lo := -nI 60) (hi := nI 60)) (F := fun x => K (some x) h) hK
  exact ⟨fun c => this.2 (fun q => q.1 c), fun c => ⟨fun c2 => this.2 (fun q => q.2 c2), fun c2 => this.1 ⟨c, c2⟩⟩⟩
theorem u_isLate (hd : 1 ≤ d) {v : Int32} (hK : K (some (.int (bI (isIn v (-200) 200)))) h) : CALL X M_FC_isLate d [.int v] h K := by
  obtain ⟨d, rfl⟩ : ∃ e, d = e + 1 := ⟨d - 1, by omega⟩
  refine call_of (by decide +kernel) (by decide) (F_FC_isLate X d) (Nat.le_of_ble_eq_true rfl) ?_
  intro g
  simp (disch := first | omega | rfl | (simp (disch := omega) only [vuS, vuN])) only [↓sSeq, ↓sI_f, ↓sL_f, ↓sR_f, ↓sInc_f, fE_c, eset_0, eset_1i, eset_1r, eset_1n, eset_1l, eset_ss, ↓sIf, ↓sBrk, ↓sCnt, ↓sRetI, ↓sRetL, ↓sRetR, ↓sRet, ↓sRetZ, ↓sSkip, ↓sSw, ↓sK, ↓sPop, ↓sFor_t, ↓sast, ↓sastC, ↓szst, ↓spst, ↓sput, ↓sputZ, ↓sputR, ↓sputN, ↓sputC, ↓sCopy,
    ↓xi, ↓xl, ↓xr, ↓xc, ↓xcl, ↓xadd, ↓xsub, ↓xmul, ↓xdiv, ↓xrem, ↓xand, ↓xor, ↓xxor, ↓xshl, ↓xshr, ↓xneg, ↓xaddl, ↓xsubl, ↓xmull, ↓xdivl, ↓xreml, ↓xnegl, ↓xi2l, ↓xi2c, ↓xofC, ↓xite, ↓xitel, ↓xiter, ↓xmax, ↓xmin, ↓xabs, ↓xabsl,
    ↓xg, ↓xgR, ↓xgO, ↓oR, ↓xald, ↓xzld, ↓xpld, ↓xlen, ↓xstr, ↓xinst, ↓cNot, ↓cAnd, ↓cOr, ↓cEq, ↓cLt, ↓cGt, ↓cEq0, ↓cLt0, ↓cGt0, ↓cEqL, ↓cLtL, ↓cGtL, ↓cEqO,
    ↓kI, ↓kL, ↓kR, ↓kV, ↓kS, ↓kD_e, ↓kP, ↓kT, ↓CALL_t, ↓vI, ↓vL, ↓vR, ↓aN, ↓aC, aenv_i, aenv_l, aenv_r, aenv_0, List.replicate, Nat.reduceSub, Nat.reduceAdd, eset2, kill, List.set_cons_zero, List.set_cons_succ, List.set_nil, List.getElem?_cons_zero, List.getElem?_cons_succ, List.getElem?_nil, List.mem_cons, List.not_mem_nil, or_false, or_true, true_and, and_true, true_or, false_or, false_and, and_false, not_false_eq_true, not_true_eq_false, forall_const, false_imp_iff, imp_false, true_imp_iff, if_true, if_false, implies_true, reduceIte, reduceCtorEq,
    ↓onO_CF, ↓onO_CT, ↓onI_CT1, ↓onO_CN, ↓onI_CN1, ↓onI_CN2, ↓onI_CN3, ↓onI_CN4, ↓onI_CN5, ↓onI_CN6, ↓onI_CN7, ↓onI_CN8, ↓onO_CS, ↓onI_CS1, ↓onP_CS2, ↓onI_CS3, ↓onI_CS4, ↓onI_CS5, ↓fR_f0, ↓fR_f1, ↓fR_f2, ↓fR_f3, ↓fR_f4, ↓fR_f5, ↓fI_f6, ↓fR_f7, ↓fR_t0, ↓fI_t1, ↓fR_s0, ↓fR_s1, ↓fR_s2, ↓fR_s3, ↓fR_s4, ↓fR_s5, ↓fO_s5, ↓fI_s6, ↓fI_s7, ↓fI_s8, ↓fI_s9, ↓fR_n0, ↓fI_n1, ↓fI_n2, ↓fR_n3, ↓fR_n4, ↓fI_n5, ↓fR_n6, ↓fR_n7, ↓fR_n8, ↓fI_n9, ↓fR_n10, ↓fR_n11, ↓fI_n12,
    CHu_F, CHu_T, CHu_T1, CHu_S5, CHu_S6, CHu_S7, CHu_S8, CHu_S9, CHu_a1, CHu_a2, CHu_a3, CHu_a4, CHu_a5, CHu_N1, CHu_N2, CHu_N5, CHu_N9, CHu_N12, CHu_b1, CHu_b2, CHu_b3, CHu_b4, CHu_b5, CHu_b6, CHu_b7, CHu_b8, ffs_len, tfs_len, sfs_len, nfs_len, sl_i, vuS, vuN, vuV, fS_s, Nat.reduceLT, Nat.reduceEqDiff, Nat.le_refl, nI_add, nI_mulN, lit32, nI_clamp, vp_in_nI, nI_ltI, nI_eq, nI_leI, Nat.reduceMul, Nat.zero_add, Nat.add_zero, B_FC_isLate, M_FC_isLate]
  have := bK (isIn_c (v := v) (lo := -nI 200) (hi := nI 200)) (F := fun x => K (some x) h) hK
  exact ⟨fun c => this.2 (fun q => q.1 c), fun c => ⟨fun c2 => this.2 (fun q => q.2 c2), fun c2 => this.1 ⟨c, c2⟩⟩⟩
theorem isIn01 {v : Int32} : isIn v 0 1 = true ↔ (v = nI 0 ∨ v = nI 1) := by
  rw [isIn_c, Int32.lt_iff_toInt_lt, Int32.lt_iff_toInt_lt, ← Int32.toInt_inj, ← Int32.toInt_inj, show (0 : Int32).toInt = 0 from rfl, show (1 : Int32).toInt = 1 from rfl, show (nI 0).toInt = 0 from rfl, show (nI 1).toInt = 1 from rfl]
  omega
theorem u_isPart (hd : 1 ≤ d) {v : Int32} (hK : K (some (.int (bI (isIn v 0 1)))) h) : CALL X M_FC_isPart d [.int v] h K := by
  obtain ⟨d, rfl⟩ : ∃ e, d = e + 1 := ⟨d - 1, by omega⟩
  refine call_of (by decide +kernel) (by decide) (F_FC_isPart X d) (Nat.le_of_ble_eq_true rfl) ?_
  intro g
  simp (disch := first | omega | rfl | (simp (disch := omega) only [vuS, vuN])) only [↓sSeq, ↓sI_f, ↓sL_f, ↓sR_f, ↓sInc_f, fE_c, eset_0, eset_1i, eset_1r, eset_1n, eset_1l, eset_ss, ↓sIf, ↓sBrk, ↓sCnt, ↓sRetI, ↓sRetL, ↓sRetR, ↓sRet, ↓sRetZ, ↓sSkip, ↓sSw, ↓sK, ↓sPop, ↓sFor_t, ↓sast, ↓sastC, ↓szst, ↓spst, ↓sput, ↓sputZ, ↓sputR, ↓sputN, ↓sputC, ↓sCopy,
    ↓xi, ↓xl, ↓xr, ↓xc, ↓xcl, ↓xadd, ↓xsub, ↓xmul, ↓xdiv, ↓xrem, ↓xand, ↓xor, ↓xxor, ↓xshl, ↓xshr, ↓xneg, ↓xaddl, ↓xsubl, ↓xmull, ↓xdivl, ↓xreml, ↓xnegl, ↓xi2l, ↓xi2c, ↓xofC, ↓xite, ↓xitel, ↓xiter, ↓xmax, ↓xmin, ↓xabs, ↓xabsl,
    ↓xg, ↓xgR, ↓xgO, ↓oR, ↓xald, ↓xzld, ↓xpld, ↓xlen, ↓xstr, ↓xinst, ↓cNot, ↓cAnd, ↓cOr, ↓cEq, ↓cLt, ↓cGt, ↓cEq0, ↓cLt0, ↓cGt0, ↓cEqL, ↓cLtL, ↓cGtL, ↓cEqO,
    ↓kI, ↓kL, ↓kR, ↓kV, ↓kS, ↓kD_e, ↓kP, ↓kT, ↓CALL_t, ↓vI, ↓vL, ↓vR, ↓aN, ↓aC, aenv_i, aenv_l, aenv_r, aenv_0, List.replicate, Nat.reduceSub, Nat.reduceAdd, eset2, kill, List.set_cons_zero, List.set_cons_succ, List.set_nil, List.getElem?_cons_zero, List.getElem?_cons_succ, List.getElem?_nil, List.mem_cons, List.not_mem_nil, or_false, or_true, true_and, and_true, true_or, false_or, false_and, and_false, not_false_eq_true, not_true_eq_false, forall_const, false_imp_iff, imp_false, true_imp_iff, if_true, if_false, implies_true, reduceIte, reduceCtorEq,
    ↓onO_CF, ↓onO_CT, ↓onI_CT1, ↓onO_CN, ↓onI_CN1, ↓onI_CN2, ↓onI_CN3, ↓onI_CN4, ↓onI_CN5, ↓onI_CN6, ↓onI_CN7, ↓onI_CN8, ↓onO_CS, ↓onI_CS1, ↓onP_CS2, ↓onI_CS3, ↓onI_CS4, ↓onI_CS5, ↓fR_f0, ↓fR_f1, ↓fR_f2, ↓fR_f3, ↓fR_f4, ↓fR_f5, ↓fI_f6, ↓fR_f7, ↓fR_t0, ↓fI_t1, ↓fR_s0, ↓fR_s1, ↓fR_s2, ↓fR_s3, ↓fR_s4, ↓fR_s5, ↓fO_s5, ↓fI_s6, ↓fI_s7, ↓fI_s8, ↓fI_s9, ↓fR_n0, ↓fI_n1, ↓fI_n2, ↓fR_n3, ↓fR_n4, ↓fI_n5, ↓fR_n6, ↓fR_n7, ↓fR_n8, ↓fI_n9, ↓fR_n10, ↓fR_n11, ↓fI_n12,
    CHu_F, CHu_T, CHu_T1, CHu_S5, CHu_S6, CHu_S7, CHu_S8, CHu_S9, CHu_a1, CHu_a2, CHu_a3, CHu_a4, CHu_a5, CHu_N1, CHu_N2, CHu_N5, CHu_N9, CHu_N12, CHu_b1, CHu_b2, CHu_b3, CHu_b4, CHu_b5, CHu_b6, CHu_b7, CHu_b8, ffs_len, tfs_len, sfs_len, nfs_len, sl_i, vuS, vuN, vuV, fS_s, Nat.reduceLT, Nat.reduceEqDiff, Nat.le_refl, nI_add, nI_mulN, lit32, nI_clamp, vp_in_nI, nI_ltI, nI_eq, nI_leI, Nat.reduceMul, Nat.zero_add, Nat.add_zero, B_FC_isPart, M_FC_isPart]
  have := bK (isIn01 (v := v)) (F := fun x => K (some x) h) hK
  exact ⟨fun c => this.1 (Or.inl c), fun c => ⟨fun c2 => this.1 (Or.inr c2), fun c2 => this.2 (fun q => q.elim c c2)⟩⟩
theorem isPer_c {S : Nat → Int32} {v : Int32} {n : Nat} (hn : n ≤ 6) (hS : S 11 = nI n) : isPer S v = true ↔ (¬ v < nI 0 ∧ v < nI n) := by
  unfold isPer
  rw [Bool.and_eq_true, decide_eq_true_iff, decide_eq_true_iff, nP_of hn hS, Int32.not_lt, Int32.le_iff_toInt_le, Int32.le_iff_toInt_le, Int32.lt_iff_toInt_lt, nI_toInt (by omega), nI_toInt (by omega), show (0 : Int32).toInt = 0 from rfl]
  show _ ∧ v.toInt.toNat < n ↔ _
  omega
theorem u_isPerson {b : Nat} (hd : 1 ≤ d) {v : Int32} (hW : WF b (st 0).1) (hK : K (some (.int (bI (isPer (st 0).1 v)))) (CH X dh st nt t im)) : CALL X M_FC_isPerson d [.ref (bA X), .int v] (CH X dh st nt t im) K := by
  obtain ⟨n, hn, hS⟩ := hW.1
  obtain ⟨d, rfl⟩ : ∃ e, d = e + 1 := ⟨d - 1, by omega⟩
  refine call_of (by decide +kernel) (by decide) (F_FC_isPerson X d) (Nat.le_of_ble_eq_true rfl) ?_
  intro g
  simp (disch := first | omega | rfl | (simp (disch := omega) only [vuS, vuN])) only [↓sSeq, ↓sI_f, ↓sL_f, ↓sR_f, ↓sInc_f, fE_c, eset_0, eset_1i, eset_1r, eset_1n, eset_1l, eset_ss, ↓sIf, ↓sBrk, ↓sCnt, ↓sRetI, ↓sRetL, ↓sRetR, ↓sRet, ↓sRetZ, ↓sSkip, ↓sSw, ↓sK, ↓sPop, ↓sFor_t, ↓sast, ↓sastC, ↓szst, ↓spst, ↓sput, ↓sputZ, ↓sputR, ↓sputN, ↓sputC, ↓sCopy,
    ↓xi, ↓xl, ↓xr, ↓xc, ↓xcl, ↓xadd, ↓xsub, ↓xmul, ↓xdiv, ↓xrem, ↓xand, ↓xor, ↓xxor, ↓xshl, ↓xshr, ↓xneg, ↓xaddl, ↓xsubl, ↓xmull, ↓xdivl, ↓xreml, ↓xnegl, ↓xi2l, ↓xi2c, ↓xofC, ↓xite, ↓xitel, ↓xiter, ↓xmax, ↓xmin, ↓xabs, ↓xabsl,
    ↓xg, ↓xgR, ↓xgO, ↓oR, ↓xald, ↓xzld, ↓xpld, ↓xlen, ↓xstr, ↓xinst, ↓cNot, ↓cAnd, ↓cOr, ↓cEq, ↓cLt, ↓cGt, ↓cEq0, ↓cLt0, ↓cGt0, ↓cEqL, ↓cLtL, ↓cGtL, ↓cEqO,
    ↓kI, ↓kL, ↓kR, ↓kV, ↓kS, ↓kD_e, ↓kP, ↓kT, ↓CALL_t, ↓vI, ↓vL, ↓vR, ↓aN, ↓aC, aenv_i, aenv_l, aenv_r, aenv_0, List.replicate, Nat.reduceSub, Nat.reduceAdd, eset2, kill, List.set_cons_zero, List.set_cons_succ, List.set_nil, List.getElem?_cons_zero, List.getElem?_cons_succ, List.getElem?_nil, List.mem_cons, List.not_mem_nil, or_false, or_true, true_and, and_true, true_or, false_or, false_and, and_false, not_false_eq_true, not_true_eq_false, forall_const, false_imp_iff, imp_false, true_imp_iff, if_true, if_false, implies_true, reduceIte, reduceCtorEq,
    ↓onO_CF, ↓onO_CT, ↓onI_CT1, ↓onO_CN, ↓onI_CN1, ↓onI_CN2, ↓onI_CN3, ↓onI_CN4, ↓onI_CN5, ↓onI_CN6, ↓onI_CN7, ↓onI_CN8, ↓onO_CS, ↓onI_CS1, ↓onP_CS2, ↓onI_CS3, ↓onI_CS4, ↓onI_CS5, ↓fR_f0, ↓fR_f1, ↓fR_f2, ↓fR_f3, ↓fR_f4, ↓fR_f5, ↓fI_f6, ↓fR_f7, ↓fR_t0, ↓fI_t1, ↓fR_s0, ↓fR_s1, ↓fR_s2, ↓fR_s3, ↓fR_s4, ↓fR_s5, ↓fO_s5, ↓fI_s6, ↓fI_s7, ↓fI_s8, ↓fI_s9, ↓fR_n0, ↓fI_n1, ↓fI_n2, ↓fR_n3, ↓fR_n4, ↓fI_n5, ↓fR_n6, ↓fR_n7, ↓fR_n8, ↓fI_n9, ↓fR_n10, ↓fR_n11, ↓fI_n12,
    CHu_F, CHu_T, CHu_T1, CHu_S5, CHu_S6, CHu_S7, CHu_S8, CHu_S9, CHu_a1, CHu_a2, CHu_a3, CHu_a4, CHu_a5, CHu_N1, CHu_N2, CHu_N5, CHu_N9, CHu_N12, CHu_b1, CHu_b2, CHu_b3, CHu_b4, CHu_b5, CHu_b6, CHu_b7, CHu_b8, ffs_len, tfs_len, sfs_len, nfs_len, sl_i, vuS, vuN, vuV, fS_s, Nat.reduceLT, Nat.reduceEqDiff, Nat.le_refl, nI_add, nI_mulN, lit32, nI_clamp, vp_in_nI, nI_ltI, nI_eq, nI_leI, Nat.reduceMul, Nat.zero_add, Nat.add_zero, B_FC_isPerson, M_FC_isPerson, hS]
  have := bK (isPer_c (v := v) hn hS) (F := fun x => K (some x) (CH X dh st nt t im)) hK
  exact ⟨fun c => this.2 (fun q => q.1 c), fun c => ⟨fun c2 => this.1 ⟨c, c2⟩, fun c2 => this.2 (fun q => c2 q.2)⟩⟩
end SML
