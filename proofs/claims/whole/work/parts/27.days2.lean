section DAYS2
variable {X : WX} {d : Nat} {h : HM} {i : Nat → Int32} {S I F B T : Nat → Int32} {r : Nat → Nat → Int32} {K : Option Value → HM → Prop}
/-- numbers from -k on -/
def zI (k m : Nat) : Int32 := nI m - nI k
theorem zI_toInt {k m : Nat} (hk : k < 1000) (hm : m < 1000) : (zI k m).toInt = (m : Int) - k := by
  unfold zI
  rw [Int32.toInt_sub, nI_toInt (by omega), nI_toInt (by omega)]
  exact Int.bmod_eq_of_le (by omega) (by omega)
theorem zI_gt {k m a : Nat} (hk : k < 1000) (hm : m < 1000) (ha : a < 1000) : (nI a < zI k m) = (a + k < m) := by
  apply propext
  rw [Int32.lt_iff_toInt_lt, zI_toInt hk hm, nI_toInt (by omega)]
  omega
theorem zI_zI {k m a : Nat} (hk : k < 1000) (hm : m < 1000) (ha : a < 1000) : (zI k a < zI k m) = (a < m) := by
  apply propext
  rw [Int32.lt_iff_toInt_lt, zI_toInt hk hm, zI_toInt hk ha]
  omega
theorem zI_inc {k m : Nat} : zI k m + nI 1 = zI k (m + 1) := by
  unfold zI
  rw [show (nI (m + 1) : Int32) = nI m + nI 1 from (nI_add m 1).symm, Int32.sub_eq_add_neg, Int32.sub_eq_add_neg, Int32.add_assoc, Int32.add_comm (-nI k), ← Int32.add_assoc]
theorem zI_0 {k : Nat} : zI k 0 = -nI k := by unfold zI; rw [show (nI 0 : Int32) = 0 from rfl, Int32.zero_sub]
theorem isIn_zI {v lo hi : Int32} {k n : Nat} (h1 : lo.toInt = -(k : Int)) (h2 : hi.toInt = (n : Int) - k) (hk : k < 500) (hn : n < 900) (h : isIn v lo hi = true) : ∃ j, j ≤ n ∧ v = zI k j := by
  simp only [isIn, Bool.and_eq_true, decide_eq_true_eq] at h
  have c0 := Int32.le_iff_toInt_le.mp h.1
  have c1 := Int32.le_iff_toInt_le.mp h.2
  rw [h1] at c0; rw [h2] at c1
  exact ⟨(v.toInt + k).toNat, by omega, Int32.toInt_inj.mp (by rw [zI_toInt (by omega) (by omega)]; omega)⟩
def whoR (S : Nat → Int32) (l : Int32) : Nat → Int32
  | 0 => nI 0
  | n + 1 => whoR S l n ||| (if sLate S n = l then jshl (nI 1) (nI n) else nI 0)
def fWho (S : Nat → Int32) (l : Int32) : Int32 := if isIn l (-200) 200 then whoR S l (nP S) else -2
theorem t_who {b : Nat} (hd : 7 ≤ d) (hb : b < 2 ^ 30) (hW : WF b S) {x : Int32} (hK : ∀ B T, K (some (.int (fWho S x))) (MH X h i S I F B T r)) : CALL X M_Mod_who d [.ref (mB X), .int x] (MH X h i S I F B T r) K := by
  obtain ⟨n, hn, hS⟩ := hW.1
  obtain ⟨d, rfl⟩ : ∃ e, d = e + 1 := ⟨d - 1, by omega⟩
  refine call_of (by decide +kernel) (by decide) (F_Mod_who X d) (Nat.le_of_ble_eq_true rfl) ?_
  intro g
  simp (disch := omega) only [↓sSeq, ↓sI_f, ↓sL_f, ↓sR_f, ↓sInc_f, fE_c, eset_0, eset_1i, eset_1r, eset_1n, eset_1l, eset_ss, ↓sIf, ↓sBrk, ↓sCnt, ↓sRetI, ↓sRetL, ↓sRetR, ↓sRet, ↓sRetZ, ↓sSkip, ↓sSw, ↓sK, ↓sPop, ↓sFor_t, ↓sast, ↓sastC, ↓szst, ↓spst, ↓sput, ↓sputZ, ↓sputR, ↓sputN, ↓sputC, ↓sCopy,
    ↓xi, ↓xl, ↓xr, ↓xc, ↓xcl, ↓xadd, ↓xsub, ↓xmul, ↓xdiv, ↓xrem, ↓xand, ↓xor, ↓xxor, ↓xshl, ↓xshr, ↓xneg, ↓xaddl, ↓xsubl, ↓xmull, ↓xdivl, ↓xreml, ↓xnegl, ↓xi2l, ↓xi2c, ↓xofC, ↓xite, ↓xitel, ↓xiter, ↓xmax, ↓xmin, ↓xabs, ↓xabsl,
    ↓xg, ↓xgR, ↓xgO, ↓oR, ↓xald, ↓xzld, ↓xpld, ↓xlen, ↓xstr, ↓xinst, ↓cNot, ↓cAnd, ↓cOr, ↓cEq, ↓cLt, ↓cGt, ↓cEq0, ↓cLt0, ↓cGt0, ↓cEqL, ↓cLtL, ↓cGtL, ↓cEqO,
    ↓kI, ↓kL, ↓kR, ↓kV, ↓kS, ↓kD, ↓kP, ↓kT, ↓CALL_t, ↓vI, ↓vL, ↓vR, ↓aN, ↓aC, aenv_i, aenv_l, aenv_r, aenv_0, List.replicate, Nat.reduceSub, Nat.reduceAdd, eset2, kill, List.set_cons_zero, List.set_cons_succ, List.set_nil, List.getElem?_cons_zero, List.getElem?_cons_succ, List.getElem?_nil, List.mem_cons, List.not_mem_nil, or_false, or_true, true_and, and_true, true_or, false_or, false_and, and_false, not_false_eq_true, not_true_eq_false, forall_const, false_imp_iff, imp_false, true_imp_iff, if_true, if_false, implies_true, reduceIte, reduceCtorEq,
    ↓onO_M, ↓onI_M1, ↓onI_M2, ↓onI_M3, ↓onI_M4, ↓onZ_M5, ↓onI_M6, ↓onI_M7, ↓onI_M8, ↓onI_M9, ↓onI_M10, ↓onI_M11, ↓fR_m1, ↓fR_m2, ↓fR_m3, ↓fR_m10, ↓fR_m11, ↓fR_m13, ↓fR_m14, ↓fR_m15, ↓fR_m16, ↓fR_m18, ↓fR_m19, ↓fI_m0, ↓fI_m4, ↓fI_m5, ↓fI_m6, ↓fI_m7, ↓fI_m8, ↓fI_m9, ↓fI_m12, ↓fI_m17, ↓fI_m20, ↓fI_m21, ↓fI_m22, ↓fI_m23,
    MHu_0, MHu_1, MHu_2, MHu_3, MHu_4, MHu_5, MHu_6, MHu_7, MHu_8, MHu_9, MHu_10, MHu_11, mfs_s4, mfs_s5, mfs_s6, mfs_s7, mfs_s8, mfs_s9, mfs_s12, mfs_s17, mfs_s20, mfs_s21, mfs_s22, mfs_s23, mfs_len, Nat.reduceLT, nI_add, nI_mulN, lit32, nI_clamp, vp_in_nI, nI_ltI, nI_eq, nI_leI, Nat.reduceMul, Nat.zero_add, Nat.add_zero, B_Mod_who, M_Mod_who]
  refine t_inb (lo := -200) (hi := 200) (by omega) (fun hi => ?_) (fun hi => ?_)
  · simp only [fWho, hi, if_true, nP_of hn hS] at hK
    simp (disch := omega) only [↓sSeq, ↓sI_f, ↓sL_f, ↓sR_f, ↓sInc_f, fE_c, eset_0, eset_1i, eset_1r, eset_1n, eset_1l, eset_ss, ↓sIf, ↓sBrk, ↓sCnt, ↓sRetI, ↓sRetL, ↓sRetR, ↓sRet, ↓sRetZ, ↓sSkip, ↓sSw, ↓sK, ↓sPop, ↓sFor_t, ↓sast, ↓sastC, ↓szst, ↓spst, ↓sput, ↓sputZ, ↓sputR, ↓sputN, ↓sputC, ↓sCopy,
    ↓xi, ↓xl, ↓xr, ↓xc, ↓xcl, ↓xadd, ↓xsub, ↓xmul, ↓xdiv, ↓xrem, ↓xand, ↓xor, ↓xxor, ↓xshl, ↓xshr, ↓xneg, ↓xaddl, ↓xsubl, ↓xmull, ↓xdivl, ↓xreml, ↓xnegl, ↓xi2l, ↓xi2c, ↓xofC, ↓xite, ↓xitel, ↓xiter, ↓xmax, ↓xmin, ↓xabs, ↓xabsl,
    ↓xg, ↓xgR, ↓xgO, ↓oR, ↓xald, ↓xzld, ↓xpld, ↓xlen, ↓xstr, ↓xinst, ↓cNot, ↓cAnd, ↓cOr, ↓cEq, ↓cLt, ↓cGt, ↓cEq0, ↓cLt0, ↓cGt0, ↓cEqL, ↓cLtL, ↓cGtL, ↓cEqO,
    ↓kI, ↓kL, ↓kR, ↓kV, ↓kS, ↓kD, ↓kP, ↓kT, ↓CALL_t, ↓vI, ↓vL, ↓vR, ↓aN, ↓aC, aenv_i, aenv_l, aenv_r, aenv_0, List.replicate, Nat.reduceSub, Nat.reduceAdd, eset2, kill, List.set_cons_zero, List.set_cons_succ, List.set_nil, List.getElem?_cons_zero, List.getElem?_cons_succ, List.getElem?_nil, List.mem_cons, List.not_mem_nil, or_false, or_true, true_and, and_true, true_or, false_or, false_and, and_false, not_false_eq_true, not_true_eq_false, forall_const, false_imp_iff, imp_false, true_imp_iff, if_true, if_false, implies_true, reduceIte, reduceCtorEq,
    ↓onO_M, ↓onI_M1, ↓onI_M2, ↓onI_M3, ↓onI_M4, ↓onZ_M5, ↓onI_M6, ↓onI_M7, ↓onI_M8, ↓onI_M9, ↓onI_M10, ↓onI_M11, ↓fR_m1, ↓fR_m2, ↓fR_m3, ↓fR_m10, ↓fR_m11, ↓fR_m13, ↓fR_m14, ↓fR_m15, ↓fR_m16, ↓fR_m18, ↓fR_m19, ↓fI_m0, ↓fI_m4, ↓fI_m5, ↓fI_m6, ↓fI_m7, ↓fI_m8, ↓fI_m9, ↓fI_m12, ↓fI_m17, ↓fI_m20, ↓fI_m21, ↓fI_m22, ↓fI_m23,
    MHu_0, MHu_1, MHu_2, MHu_3, MHu_4, MHu_5, MHu_6, MHu_7, MHu_8, MHu_9, MHu_10, MHu_11, mfs_s4, mfs_s5, mfs_s6, mfs_s7, mfs_s8, mfs_s9, mfs_s12, mfs_s17, mfs_s20, mfs_s21, mfs_s22, mfs_s23, mfs_len, Nat.reduceLT, nI_add, nI_mulN, lit32, nI_clamp, vp_in_nI, nI_ltI, nI_eq, nI_leI, Nat.reduceMul, Nat.zero_add, Nat.add_zero]
    refine for_rule (fun m env σ => ∃ (p : Nat) (B T : Nat → Int32), p + m = n ∧ env = [some (.ref (mB X)), some (.int x), some (.int (whoR S x p)), some (.int (nI p))] ∧ σ = (MH X h i S I F B T r, g)) n ⟨0, B, T, by omega, rfl, rfl⟩ ?_
    rintro m env σ P ⟨p, B, T, hp, rfl, rfl⟩ hP
    simp (disch := omega) only [↓sSeq, ↓sI_f, ↓sL_f, ↓sR_f, ↓sInc_f, fE_c, eset_0, eset_1i, eset_1r, eset_1n, eset_1l, eset_ss, ↓sIf, ↓sBrk, ↓sCnt, ↓sRetI, ↓sRetL, ↓sRetR, ↓sRet, ↓sRetZ, ↓sSkip, ↓sSw, ↓sK, ↓sPop, ↓sFor_t, ↓sast, ↓sastC, ↓szst, ↓spst, ↓sput, ↓sputZ, ↓sputR, ↓sputN, ↓sputC, ↓sCopy,
    ↓xi, ↓xl, ↓xr, ↓xc, ↓xcl, ↓xadd, ↓xsub, ↓xmul, ↓xdiv, ↓xrem, ↓xand, ↓xor, ↓xxor, ↓xshl, ↓xshr, ↓xneg, ↓xaddl, ↓xsubl, ↓xmull, ↓xdivl, ↓xreml, ↓xnegl, ↓xi2l, ↓xi2c, ↓xofC, ↓xite, ↓xitel, ↓xiter, ↓xmax, ↓xmin, ↓xabs, ↓xabsl,
    ↓xg, ↓xgR, ↓xgO, ↓oR, ↓xald, ↓xzld, ↓xpld, ↓xlen, ↓xstr, ↓xinst, ↓cNot, ↓cAnd, ↓cOr, ↓cEq, ↓cLt, ↓cGt, ↓cEq0, ↓cLt0, ↓cGt0, ↓cEqL, ↓cLtL, ↓cGtL, ↓cEqO,
    ↓kI, ↓kL, ↓kR, ↓kV, ↓kS, ↓kD, ↓kP, ↓kT, ↓CALL_t, ↓vI, ↓vL, ↓vR, ↓aN, ↓aC, aenv_i, aenv_l, aenv_r, aenv_0, List.replicate, Nat.reduceSub, Nat.reduceAdd, eset2, kill, List.set_cons_zero, List.set_cons_succ, List.set_nil, List.getElem?_cons_zero, List.getElem?_cons_succ, List.getElem?_nil, List.mem_cons, List.not_mem_nil, or_false, or_true, true_and, and_true, true_or, false_or, false_and, and_false, not_false_eq_true, not_true_eq_false, forall_const, false_imp_iff, imp_false, true_imp_iff, if_true, if_false, implies_true, reduceIte, reduceCtorEq,
    ↓onO_M, ↓onI_M1, ↓onI_M2, ↓onI_M3, ↓onI_M4, ↓onZ_M5, ↓onI_M6, ↓onI_M7, ↓onI_M8, ↓onI_M9, ↓onI_M10, ↓onI_M11, ↓fR_m1, ↓fR_m2, ↓fR_m3, ↓fR_m10, ↓fR_m11, ↓fR_m13, ↓fR_m14, ↓fR_m15, ↓fR_m16, ↓fR_m18, ↓fR_m19, ↓fI_m0, ↓fI_m4, ↓fI_m5, ↓fI_m6, ↓fI_m7, ↓fI_m8, ↓fI_m9, ↓fI_m12, ↓fI_m17, ↓fI_m20, ↓fI_m21, ↓fI_m22, ↓fI_m23,
    MHu_0, MHu_1, MHu_2, MHu_3, MHu_4, MHu_5, MHu_6, MHu_7, MHu_8, MHu_9, MHu_10, MHu_11, mfs_s4, mfs_s5, mfs_s6, mfs_s7, mfs_s8, mfs_s9, mfs_s12, mfs_s17, mfs_s20, mfs_s21, mfs_s22, mfs_s23, mfs_len, Nat.reduceLT, nI_add, nI_mulN, lit32, nI_clamp, vp_in_nI, nI_ltI, nI_eq, nI_leI, Nat.reduceMul, Nat.zero_add, Nat.add_zero, hS]
    refine ⟨fun c => ?_, fun c => ?_⟩
    · simp (disch := omega) only [↓sSeq, ↓sI_f, ↓sL_f, ↓sR_f, ↓sInc_f, fE_c, eset_0, eset_1i, eset_1r, eset_1n, eset_1l, eset_ss, ↓sIf, ↓sBrk, ↓sCnt, ↓sRetI, ↓sRetL, ↓sRetR, ↓sRet, ↓sRetZ, ↓sSkip, ↓sSw, ↓sK, ↓sPop, ↓sFor_t, ↓sast, ↓sastC, ↓szst, ↓spst, ↓sput, ↓sputZ, ↓sputR, ↓sputN, ↓sputC, ↓sCopy,
    ↓xi, ↓xl, ↓xr, ↓xc, ↓xcl, ↓xadd, ↓xsub, ↓xmul, ↓xdiv, ↓xrem, ↓xand, ↓xor, ↓xxor, ↓xshl, ↓xshr, ↓xneg, ↓xaddl, ↓xsubl, ↓xmull, ↓xdivl, ↓xreml, ↓xnegl, ↓xi2l, ↓xi2c, ↓xofC, ↓xite, ↓xitel, ↓xiter, ↓xmax, ↓xmin, ↓xabs, ↓xabsl,
    ↓xg, ↓xgR, ↓xgO, ↓oR, ↓xald, ↓xzld, ↓xpld, ↓xlen, ↓xstr, ↓xinst, ↓cNot, ↓cAnd, ↓cOr, ↓cEq, ↓cLt, ↓cGt, ↓cEq0, ↓cLt0, ↓cGt0, ↓cEqL, ↓cLtL, ↓cGtL, ↓cEqO,
    ↓kI, ↓kL, ↓kR, ↓kV, ↓kS, ↓kD, ↓kP, ↓kT, ↓CALL_t, ↓vI, ↓vL, ↓vR, ↓aN, ↓aC, aenv_i, aenv_l, aenv_r, aenv_0, List.replicate, Nat.reduceSub, Nat.reduceAdd, eset2, kill, List.set_cons_zero, List.set_cons_succ, List.set_nil, List.getElem?_cons_zero, List.getElem?_cons_succ, List.getElem?_nil, List.mem_cons, List.not_mem_nil, or_false, or_true, true_and, and_true, true_or, false_or, false_and, and_false, not_false_eq_true, not_true_eq_false, forall_const, false_imp_iff, imp_false, true_imp_iff, if_true, if_false, implies_true, reduceIte, reduceCtorEq,
    ↓onO_M, ↓onI_M1, ↓onI_M2, ↓onI_M3, ↓onI_M4, ↓onZ_M5, ↓onI_M6, ↓onI_M7, ↓onI_M8, ↓onI_M9, ↓onI_M10, ↓onI_M11, ↓fR_m1, ↓fR_m2, ↓fR_m3, ↓fR_m10, ↓fR_m11, ↓fR_m13, ↓fR_m14, ↓fR_m15, ↓fR_m16, ↓fR_m18, ↓fR_m19, ↓fI_m0, ↓fI_m4, ↓fI_m5, ↓fI_m6, ↓fI_m7, ↓fI_m8, ↓fI_m9, ↓fI_m12, ↓fI_m17, ↓fI_m20, ↓fI_m21, ↓fI_m22, ↓fI_m23,
    MHu_0, MHu_1, MHu_2, MHu_3, MHu_4, MHu_5, MHu_6, MHu_7, MHu_8, MHu_9, MHu_10, MHu_11, mfs_s4, mfs_s5, mfs_s6, mfs_s7, mfs_s8, mfs_s9, mfs_s12, mfs_s17, mfs_s20, mfs_s21, mfs_s22, mfs_s23, mfs_len, Nat.reduceLT, nI_add, nI_mulN, lit32, nI_clamp, vp_in_nI, nI_ltI, nI_eq, nI_leI, Nat.reduceMul, Nat.zero_add, Nat.add_zero, L_Mod_who_1]
      refine t_late (by omega) (by omega) hb hW (fun B T => ?_)
      simp (disch := omega) only [↓sSeq, ↓sI_f, ↓sL_f, ↓sR_f, ↓sInc_f, fE_c, eset_0, eset_1i, eset_1r, eset_1n, eset_1l, eset_ss, ↓sIf, ↓sBrk, ↓sCnt, ↓sRetI, ↓sRetL, ↓sRetR, ↓sRet, ↓sRetZ, ↓sSkip, ↓sSw, ↓sK, ↓sPop, ↓sFor_t, ↓sast, ↓sastC, ↓szst, ↓spst, ↓sput, ↓sputZ, ↓sputR, ↓sputN, ↓sputC, ↓sCopy,
    ↓xi, ↓xl, ↓xr, ↓xc, ↓xcl, ↓xadd, ↓xsub, ↓xmul, ↓xdiv, ↓xrem, ↓xand, ↓xor, ↓xxor, ↓xshl, ↓xshr, ↓xneg, ↓xaddl, ↓xsubl, ↓xmull, ↓xdivl, ↓xreml, ↓xnegl, ↓xi2l, ↓xi2c, ↓xofC, ↓xite, ↓xitel, ↓xiter, ↓xmax, ↓xmin, ↓xabs, ↓xabsl,
    ↓xg, ↓xgR, ↓xgO, ↓oR, ↓xald, ↓xzld, ↓xpld, ↓xlen, ↓xstr, ↓xinst, ↓cNot, ↓cAnd, ↓cOr, ↓cEq, ↓cLt, ↓cGt, ↓cEq0, ↓cLt0, ↓cGt0, ↓cEqL, ↓cLtL, ↓cGtL, ↓cEqO,
    ↓kI, ↓kL, ↓kR, ↓kV, ↓kS, ↓kD, ↓kP, ↓kT, ↓CALL_t, ↓vI, ↓vL, ↓vR, ↓aN, ↓aC, aenv_i, aenv_l, aenv_r, aenv_0, List.replicate, Nat.reduceSub, Nat.reduceAdd, eset2, kill, List.set_cons_zero, List.set_cons_succ, List.set_nil, List.getElem?_cons_zero, List.getElem?_cons_succ, List.getElem?_nil, List.mem_cons, List.not_mem_nil, or_false, or_true, true_and, and_true, true_or, false_or, false_and, and_false, not_false_eq_true, not_true_eq_false, forall_const, false_imp_iff, imp_false, true_imp_iff, if_true, if_false, implies_true, reduceIte, reduceCtorEq,
    ↓onO_M, ↓onI_M1, ↓onI_M2, ↓onI_M3, ↓onI_M4, ↓onZ_M5, ↓onI_M6, ↓onI_M7, ↓onI_M8, ↓onI_M9, ↓onI_M10, ↓onI_M11, ↓fR_m1, ↓fR_m2, ↓fR_m3, ↓fR_m10, ↓fR_m11, ↓fR_m13, ↓fR_m14, ↓fR_m15, ↓fR_m16, ↓fR_m18, ↓fR_m19, ↓fI_m0, ↓fI_m4, ↓fI_m5, ↓fI_m6, ↓fI_m7, ↓fI_m8, ↓fI_m9, ↓fI_m12, ↓fI_m17, ↓fI_m20, ↓fI_m21, ↓fI_m22, ↓fI_m23,
    MHu_0, MHu_1, MHu_2, MHu_3, MHu_4, MHu_5, MHu_6, MHu_7, MHu_8, MHu_9, MHu_10, MHu_11, mfs_s4, mfs_s5, mfs_s6, mfs_s7, mfs_s8, mfs_s9, mfs_s12, mfs_s17, mfs_s20, mfs_s21, mfs_s22, mfs_s23, mfs_len, Nat.reduceLT, nI_add, nI_mulN, lit32, nI_clamp, vp_in_nI, nI_ltI, nI_eq, nI_leI, Nat.reduceMul, Nat.zero_add, Nat.add_zero]
      refine ⟨fun q => ?_, fun q => ?_⟩
      · exact hP (m - 1) _ _ (by omega) ⟨p + 1, B, T, by omega, by simp only [whoR, if_pos q], rfl⟩
      · exact hP (m - 1) _ _ (by omega) ⟨p + 1, B, T, by omega, by simp only [whoR, if_neg q], rfl⟩
    · have : p = n := by omega
      subst this
      exact hK B T
  · have hK := hK B T
    simp (disch := omega) only [↓sSeq, ↓sI_f, ↓sL_f, ↓sR_f, ↓sInc_f, fE_c, eset_0, eset_1i, eset_1r, eset_1n, eset_1l, eset_ss, ↓sIf, ↓sBrk, ↓sCnt, ↓sRetI, ↓sRetL, ↓sRetR, ↓sRet, ↓sRetZ, ↓sSkip, ↓sSw, ↓sK, ↓sPop, ↓sFor_t, ↓sast, ↓sastC, ↓szst, ↓spst, ↓sput, ↓sputZ, ↓sputR, ↓sputN, ↓sputC, ↓sCopy,
    ↓xi, ↓xl, ↓xr, ↓xc, ↓xcl, ↓xadd, ↓xsub, ↓xmul, ↓xdiv, ↓xrem, ↓xand, ↓xor, ↓xxor, ↓xshl, ↓xshr, ↓xneg, ↓xaddl, ↓xsubl, ↓xmull, ↓xdivl, ↓xreml, ↓xnegl, ↓xi2l, ↓xi2c, ↓xofC, ↓xite, ↓xitel, ↓xiter, ↓xmax, ↓xmin, ↓xabs, ↓xabsl,
    ↓xg, ↓xgR, ↓xgO, ↓oR, ↓xald, ↓xzld, ↓xpld, ↓xlen, ↓xstr, ↓xinst, ↓cNot, ↓cAnd, ↓cOr, ↓cEq, ↓cLt, ↓cGt, ↓cEq0, ↓cLt0, ↓cGt0, ↓cEqL, ↓cLtL, ↓cGtL, ↓cEqO,
    ↓kI, ↓kL, ↓kR, ↓kV, ↓kS, ↓kD, ↓kP, ↓kT, ↓CALL_t, ↓vI, ↓vL, ↓vR, ↓aN, ↓aC, aenv_i, aenv_l, aenv_r, aenv_0, List.replicate, Nat.reduceSub, Nat.reduceAdd, eset2, kill, List.set_cons_zero, List.set_cons_succ, List.set_nil, List.getElem?_cons_zero, List.getElem?_cons_succ, List.getElem?_nil, List.mem_cons, List.not_mem_nil, or_false, or_true, true_and, and_true, true_or, false_or, false_and, and_false, not_false_eq_true, not_true_eq_false, forall_const, false_imp_iff, imp_false, true_imp_iff, if_true, if_false, implies_true, reduceIte, reduceCtorEq,
    ↓onO_M, ↓onI_M1, ↓onI_M2, ↓onI_M3, ↓onI_M4, ↓onZ_M5, ↓onI_M6, ↓onI_M7, ↓onI_M8, ↓onI_M9, ↓onI_M10, ↓onI_M11, ↓fR_m1, ↓fR_m2, ↓fR_m3, ↓fR_m10, ↓fR_m11, ↓fR_m13, ↓fR_m14, ↓fR_m15, ↓fR_m16, ↓fR_m18, ↓fR_m19, ↓fI_m0, ↓fI_m4, ↓fI_m5, ↓fI_m6, ↓fI_m7, ↓fI_m8, ↓fI_m9, ↓fI_m12, ↓fI_m17, ↓fI_m20, ↓fI_m21, ↓fI_m22, ↓fI_m23,
    MHu_0, MHu_1, MHu_2, MHu_3, MHu_4, MHu_5, MHu_6, MHu_7, MHu_8, MHu_9, MHu_10, MHu_11, mfs_s4, mfs_s5, mfs_s6, mfs_s7, mfs_s8, mfs_s9, mfs_s12, mfs_s17, mfs_s20, mfs_s21, mfs_s22, mfs_s23, mfs_len, Nat.reduceLT, nI_add, nI_mulN, lit32, nI_clamp, vp_in_nI, nI_ltI, nI_eq, nI_leI, Nat.reduceMul, Nat.zero_add, Nat.add_zero]
    (simp [fWho, hi] at hK; exact hK)
/-- the row of who is how late -/
def lts (S : Nat → Int32) (n : Nat) (f : Nat → Int32) : Nat → Int32 := fun j => if j < n then sLate S j else f j
theorem lts_0 {f : Nat → Int32} : lts S 0 f = f := by funext j; simp [lts]
theorem lts_up {n : Nat} {f : Nat → Int32} : upd (lts S n f) n (sLate S n) = lts S (n + 1) f := by
  funext j
  unfold upd lts
  by_cases q : j = n
  · subst q; rw [if_pos rfl, if_pos (by omega)]
  · rw [if_neg q]
    by_cases q2 : j < n
    · rw [if_pos q2, if_pos (by omega)]
    · rw [if_neg q2, if_neg (by omega)]
theorem vu_self {f : Nat → Nat → Int32} {k : Nat} : va_up f k (f k) = f := by funext j; unfold va_up; by_cases q : j = k <;> simp [q]
theorem t_looksForLates {b n : Nat} (hd : 7 ≤ d) (hb : b < 2 ^ 30) (hW : WF b S) (hn : n ≤ 6) (hS : S 11 = nI n) (hK : ∀ B T, K none (MH X h i S I F B T (va_up r 6 (lts S n (r 6))))) : CALL X M_Mod_looksForLates d [.ref (mB X)] (MH X h i S I F B T r) K := by
  obtain ⟨d, rfl⟩ : ∃ e, d = e + 1 := ⟨d - 1, by omega⟩
  refine call_of (by decide +kernel) (by decide) (F_Mod_looksForLates X d) (Nat.le_of_ble_eq_true rfl) ?_
  intro g
  simp (disch := omega) only [↓sSeq, ↓sI_f, ↓sL_f, ↓sR_f, ↓sInc_f, fE_c, eset_0, eset_1i, eset_1r, eset_1n, eset_1l, eset_ss, ↓sIf, ↓sBrk, ↓sCnt, ↓sRetI, ↓sRetL, ↓sRetR, ↓sRet, ↓sRetZ, ↓sSkip, ↓sSw, ↓sK, ↓sPop, ↓sFor_t, ↓sast, ↓sastC, ↓szst, ↓spst, ↓sput, ↓sputZ, ↓sputR, ↓sputN, ↓sputC, ↓sCopy,
    ↓xi, ↓xl, ↓xr, ↓xc, ↓xcl, ↓xadd, ↓xsub, ↓xmul, ↓xdiv, ↓xrem, ↓xand, ↓xor, ↓xxor, ↓xshl, ↓xshr, ↓xneg, ↓xaddl, ↓xsubl, ↓xmull, ↓xdivl, ↓xreml, ↓xnegl, ↓xi2l, ↓xi2c, ↓xofC, ↓xite, ↓xitel, ↓xiter, ↓xmax, ↓xmin, ↓xabs, ↓xabsl,
    ↓xg, ↓xgR, ↓xgO, ↓oR, ↓xald, ↓xzld, ↓xpld, ↓xlen, ↓xstr, ↓xinst, ↓cNot, ↓cAnd, ↓cOr, ↓cEq, ↓cLt, ↓cGt, ↓cEq0, ↓cLt0, ↓cGt0, ↓cEqL, ↓cLtL, ↓cGtL, ↓cEqO,
    ↓kI, ↓kL, ↓kR, ↓kV, ↓kS, ↓kD, ↓kP, ↓kT, ↓CALL_t, ↓vI, ↓vL, ↓vR, ↓aN, ↓aC, aenv_i, aenv_l, aenv_r, aenv_0, List.replicate, Nat.reduceSub, Nat.reduceAdd, eset2, kill, List.set_cons_zero, List.set_cons_succ, List.set_nil, List.getElem?_cons_zero, List.getElem?_cons_succ, List.getElem?_nil, List.mem_cons, List.not_mem_nil, or_false, or_true, true_and, and_true, true_or, false_or, false_and, and_false, not_false_eq_true, not_true_eq_false, forall_const, false_imp_iff, imp_false, true_imp_iff, if_true, if_false, implies_true, reduceIte, reduceCtorEq,
    ↓onO_M, ↓onI_M1, ↓onI_M2, ↓onI_M3, ↓onI_M4, ↓onZ_M5, ↓onI_M6, ↓onI_M7, ↓onI_M8, ↓onI_M9, ↓onI_M10, ↓onI_M11, ↓fR_m1, ↓fR_m2, ↓fR_m3, ↓fR_m10, ↓fR_m11, ↓fR_m13, ↓fR_m14, ↓fR_m15, ↓fR_m16, ↓fR_m18, ↓fR_m19, ↓fI_m0, ↓fI_m4, ↓fI_m5, ↓fI_m6, ↓fI_m7, ↓fI_m8, ↓fI_m9, ↓fI_m12, ↓fI_m17, ↓fI_m20, ↓fI_m21, ↓fI_m22, ↓fI_m23,
    MHu_0, MHu_1, MHu_2, MHu_3, MHu_4, MHu_5, MHu_6, MHu_7, MHu_8, MHu_9, MHu_10, MHu_11, mfs_s4, mfs_s5, mfs_s6, mfs_s7, mfs_s8, mfs_s9, mfs_s12, mfs_s17, mfs_s20, mfs_s21, mfs_s22, mfs_s23, mfs_len, Nat.reduceLT, nI_add, nI_mulN, lit32, nI_clamp, vp_in_nI, nI_ltI, nI_eq, nI_leI, Nat.reduceMul, Nat.zero_add, Nat.add_zero, B_Mod_looksForLates, M_Mod_looksForLates]
  refine for_rule (fun m env σ => ∃ (p : Nat) (B T : Nat → Int32), p + m = n ∧ env = [some (.ref (mB X)), some (.int (nI p))] ∧ σ = (MH X h i S I F B T (va_up r 6 (lts S p (r 6))), g)) n ⟨0, B, T, by omega, rfl, by rw [lts_0, vu_self]⟩ ?_
  rintro m env σ P ⟨p, B, T, hp, rfl, rfl⟩ hP
  simp (disch := omega) only [↓sSeq, ↓sI_f, ↓sL_f, ↓sR_f, ↓sInc_f, fE_c, eset_0, eset_1i, eset_1r, eset_1n, eset_1l, eset_ss, ↓sIf, ↓sBrk, ↓sCnt, ↓sRetI, ↓sRetL, ↓sRetR, ↓sRet, ↓sRetZ, ↓sSkip, ↓sSw, ↓sK, ↓sPop, ↓sFor_t, ↓sast, ↓sastC, ↓szst, ↓spst, ↓sput, ↓sputZ, ↓sputR, ↓sputN, ↓sputC, ↓sCopy,
    ↓xi, ↓xl, ↓xr, ↓xc, ↓xcl, ↓xadd, ↓xsub, ↓xmul, ↓xdiv, ↓xrem, ↓xand, ↓xor, ↓xxor, ↓xshl, ↓xshr, ↓xneg, ↓xaddl, ↓xsubl, ↓xmull, ↓xdivl, ↓xreml, ↓xnegl, ↓xi2l, ↓xi2c, ↓xofC, ↓xite, ↓xitel, ↓xiter, ↓xmax, ↓xmin, ↓xabs, ↓xabsl,
    ↓xg, ↓xgR, ↓xgO, ↓oR, ↓xald, ↓xzld, ↓xpld, ↓xlen, ↓xstr, ↓xinst, ↓cNot, ↓cAnd, ↓cOr, ↓cEq, ↓cLt, ↓cGt, ↓cEq0, ↓cLt0, ↓cGt0, ↓cEqL, ↓cLtL, ↓cGtL, ↓cEqO,
    ↓kI, ↓kL, ↓kR, ↓kV, ↓kS, ↓kD, ↓kP, ↓kT, ↓CALL_t, ↓vI, ↓vL, ↓vR, ↓aN, ↓aC, aenv_i, aenv_l, aenv_r, aenv_0, List.replicate, Nat.reduceSub, Nat.reduceAdd, eset2, kill, List.set_cons_zero, List.set_cons_succ, List.set_nil, List.getElem?_cons_zero, List.getElem?_cons_succ, List.getElem?_nil, List.mem_cons, List.not_mem_nil, or_false, or_true, true_and, and_true, true_or, false_or, false_and, and_false, not_false_eq_true, not_true_eq_false, forall_const, false_imp_iff, imp_false, true_imp_iff, if_true, if_false, implies_true, reduceIte, reduceCtorEq,
    ↓onO_M, ↓onI_M1, ↓onI_M2, ↓onI_M3, ↓onI_M4, ↓onZ_M5, ↓onI_M6, ↓onI_M7, ↓onI_M8, ↓onI_M9, ↓onI_M10, ↓onI_M11, ↓fR_m1, ↓fR_m2, ↓fR_m3, ↓fR_m10, ↓fR_m11, ↓fR_m13, ↓fR_m14, ↓fR_m15, ↓fR_m16, ↓fR_m18, ↓fR_m19, ↓fI_m0, ↓fI_m4, ↓fI_m5, ↓fI_m6, ↓fI_m7, ↓fI_m8, ↓fI_m9, ↓fI_m12, ↓fI_m17, ↓fI_m20, ↓fI_m21, ↓fI_m22, ↓fI_m23,
    MHu_0, MHu_1, MHu_2, MHu_3, MHu_4, MHu_5, MHu_6, MHu_7, MHu_8, MHu_9, MHu_10, MHu_11, mfs_s4, mfs_s5, mfs_s6, mfs_s7, mfs_s8, mfs_s9, mfs_s12, mfs_s17, mfs_s20, mfs_s21, mfs_s22, mfs_s23, mfs_len, Nat.reduceLT, nI_add, nI_mulN, lit32, nI_clamp, vp_in_nI, nI_ltI, nI_eq, nI_leI, Nat.reduceMul, Nat.zero_add, Nat.add_zero, hS]
  refine ⟨fun c => ?_, fun c => ?_⟩
  · simp (disch := omega) only [↓sSeq, ↓sI_f, ↓sL_f, ↓sR_f, ↓sInc_f, fE_c, eset_0, eset_1i, eset_1r, eset_1n, eset_1l, eset_ss, ↓sIf, ↓sBrk, ↓sCnt, ↓sRetI, ↓sRetL, ↓sRetR, ↓sRet, ↓sRetZ, ↓sSkip, ↓sSw, ↓sK, ↓sPop, ↓sFor_t, ↓sast, ↓sastC, ↓szst, ↓spst, ↓sput, ↓sputZ, ↓sputR, ↓sputN, ↓sputC, ↓sCopy,
    ↓xi, ↓xl, ↓xr, ↓xc, ↓xcl, ↓xadd, ↓xsub, ↓xmul, ↓xdiv, ↓xrem, ↓xand, ↓xor, ↓xxor, ↓xshl, ↓xshr, ↓xneg, ↓xaddl, ↓xsubl, ↓xmull, ↓xdivl, ↓xreml, ↓xnegl, ↓xi2l, ↓xi2c, ↓xofC, ↓xite, ↓xitel, ↓xiter, ↓xmax, ↓xmin, ↓xabs, ↓xabsl,
    ↓xg, ↓xgR, ↓xgO, ↓oR, ↓xald, ↓xzld, ↓xpld, ↓xlen, ↓xstr, ↓xinst, ↓cNot, ↓cAnd, ↓cOr, ↓cEq, ↓cLt, ↓cGt, ↓cEq0, ↓cLt0, ↓cGt0, ↓cEqL, ↓cLtL, ↓cGtL, ↓cEqO,
    ↓kI, ↓kL, ↓kR, ↓kV, ↓kS, ↓kD, ↓kP, ↓kT, ↓CALL_t, ↓vI, ↓vL, ↓vR, ↓aN, ↓aC, aenv_i, aenv_l, aenv_r, aenv_0, List.replicate, Nat.reduceSub, Nat.reduceAdd, eset2, kill, List.set_cons_zero, List.set_cons_succ, List.set_nil, List.getElem?_cons_zero, List.getElem?_cons_succ, List.getElem?_nil, List.mem_cons, List.not_mem_nil, or_false, or_true, true_and, and_true, true_or, false_or, false_and, and_false, not_false_eq_true, not_true_eq_false, forall_const, false_imp_iff, imp_false, true_imp_iff, if_true, if_false, implies_true, reduceIte, reduceCtorEq,
    ↓onO_M, ↓onI_M1, ↓onI_M2, ↓onI_M3, ↓onI_M4, ↓onZ_M5, ↓onI_M6, ↓onI_M7, ↓onI_M8, ↓onI_M9, ↓onI_M10, ↓onI_M11, ↓fR_m1, ↓fR_m2, ↓fR_m3, ↓fR_m10, ↓fR_m11, ↓fR_m13, ↓fR_m14, ↓fR_m15, ↓fR_m16, ↓fR_m18, ↓fR_m19, ↓fI_m0, ↓fI_m4, ↓fI_m5, ↓fI_m6, ↓fI_m7, ↓fI_m8, ↓fI_m9, ↓fI_m12, ↓fI_m17, ↓fI_m20, ↓fI_m21, ↓fI_m22, ↓fI_m23,
    MHu_0, MHu_1, MHu_2, MHu_3, MHu_4, MHu_5, MHu_6, MHu_7, MHu_8, MHu_9, MHu_10, MHu_11, mfs_s4, mfs_s5, mfs_s6, mfs_s7, mfs_s8, mfs_s9, mfs_s12, mfs_s17, mfs_s20, mfs_s21, mfs_s22, mfs_s23, mfs_len, Nat.reduceLT, nI_add, nI_mulN, lit32, nI_clamp, vp_in_nI, nI_ltI, nI_eq, nI_leI, Nat.reduceMul, Nat.zero_add, Nat.add_zero, L_Mod_looksForLates_1]
    refine t_late (by omega) (by omega) hb hW (fun B T => ?_)
    simp (disch := omega) only [↓sSeq, ↓sI_f, ↓sL_f, ↓sR_f, ↓sInc_f, fE_c, eset_0, eset_1i, eset_1r, eset_1n, eset_1l, eset_ss, ↓sIf, ↓sBrk, ↓sCnt, ↓sRetI, ↓sRetL, ↓sRetR, ↓sRet, ↓sRetZ, ↓sSkip, ↓sSw, ↓sK, ↓sPop, ↓sFor_t, ↓sast, ↓sastC, ↓szst, ↓spst, ↓sput, ↓sputZ, ↓sputR, ↓sputN, ↓sputC, ↓sCopy,
    ↓xi, ↓xl, ↓xr, ↓xc, ↓xcl, ↓xadd, ↓xsub, ↓xmul, ↓xdiv, ↓xrem, ↓xand, ↓xor, ↓xxor, ↓xshl, ↓xshr, ↓xneg, ↓xaddl, ↓xsubl, ↓xmull, ↓xdivl, ↓xreml, ↓xnegl, ↓xi2l, ↓xi2c, ↓xofC, ↓xite, ↓xitel, ↓xiter, ↓xmax, ↓xmin, ↓xabs, ↓xabsl,
    ↓xg, ↓xgR, ↓xgO, ↓oR, ↓xald, ↓xzld, ↓xpld, ↓xlen, ↓xstr, ↓xinst, ↓cNot, ↓cAnd, ↓cOr, ↓cEq, ↓cLt, ↓cGt, ↓cEq0, ↓cLt0, ↓cGt0, ↓cEqL, ↓cLtL, ↓cGtL, ↓cEqO,
    ↓kI, ↓kL, ↓kR, ↓kV, ↓kS, ↓kD, ↓kP, ↓kT, ↓CALL_t, ↓vI, ↓vL, ↓vR, ↓aN, ↓aC, aenv_i, aenv_l, aenv_r, aenv_0, List.replicate, Nat.reduceSub, Nat.reduceAdd, eset2, kill, List.set_cons_zero, List.set_cons_succ, List.set_nil, List.getElem?_cons_zero, List.getElem?_cons_succ, List.getElem?_nil, List.mem_cons, List.not_mem_nil, or_false, or_true, true_and, and_true, true_or, false_or, false_and, and_false, not_false_eq_true, not_true_eq_false, forall_const, false_imp_iff, imp_false, true_imp_iff, if_true, if_false, implies_true, reduceIte, reduceCtorEq,
    ↓onO_M, ↓onI_M1, ↓onI_M2, ↓onI_M3, ↓onI_M4, ↓onZ_M5, ↓onI_M6, ↓onI_M7, ↓onI_M8, ↓onI_M9, ↓onI_M10, ↓onI_M11, ↓fR_m1, ↓fR_m2, ↓fR_m3, ↓fR_m10, ↓fR_m11, ↓fR_m13, ↓fR_m14, ↓fR_m15, ↓fR_m16, ↓fR_m18, ↓fR_m19, ↓fI_m0, ↓fI_m4, ↓fI_m5, ↓fI_m6, ↓fI_m7, ↓fI_m8, ↓fI_m9, ↓fI_m12, ↓fI_m17, ↓fI_m20, ↓fI_m21, ↓fI_m22, ↓fI_m23,
    MHu_0, MHu_1, MHu_2, MHu_3, MHu_4, MHu_5, MHu_6, MHu_7, MHu_8, MHu_9, MHu_10, MHu_11, mfs_s4, mfs_s5, mfs_s6, mfs_s7, mfs_s8, mfs_s9, mfs_s12, mfs_s17, mfs_s20, mfs_s21, mfs_s22, mfs_s23, mfs_len, Nat.reduceLT, nI_add, nI_mulN, lit32, nI_clamp, vp_in_nI, nI_ltI, nI_eq, nI_leI, Nat.reduceMul, Nat.zero_add, Nat.add_zero, vu_s, vu_vu, lts_up]
    exact hP (m - 1) _ _ (by omega) ⟨p + 1, B, T, by omega, rfl, rfl⟩
  · have : p = n := by omega
    subst this
    exact hK B T
/-- who of the first so many is the latest; the first of those who are so late -/
def worstR (S : Nat → Int32) : Nat → Nat
  | 0 => 0
  | n + 1 => if sLate S (worstR S n) < sLate S n then n else worstR S n
theorem worstR_le : ∀ n, worstR S (n + 1) ≤ n
  | 0 => by simp [worstR]
  | n + 1 => by
    have := worstR_le n
    show (if sLate S (worstR S (n + 1)) < sLate S (n + 1) then n + 1 else worstR S (n + 1)) ≤ n + 1
    split <;> omega
def fWorst (S : Nat → Int32) : Int32 := if nP S = 0 then -5 else nI (worstR S (nP S))
theorem lts_i {n j : Nat} {f : Nat → Int32} (h : j < n) : lts S n f j = sLate S j := if_pos h
theorem t_worst {b : Nat} (hd : 8 ≤ d) (hb : b < 2 ^ 30) (hW : WF b S) (hK : ∀ B T r', r' 11 = r 11 → K (some (.int (fWorst S))) (MH X h i S I F B T r')) : CALL X M_Mod_worst d [.ref (mB X)] (MH X h i S I F B T r) K := by
  obtain ⟨n, hn, hS⟩ := hW.1
  simp only [fWorst, nP_of hn hS] at hK
  obtain ⟨d, rfl⟩ : ∃ e, d = e + 1 := ⟨d - 1, by omega⟩
  refine call_of (by decide +kernel) (by decide) (F_Mod_worst X d) (Nat.le_of_ble_eq_true rfl) ?_
  intro g
  simp (disch := omega) only [↓sSeq, ↓sI_f, ↓sL_f, ↓sR_f, ↓sInc_f, fE_c, eset_0, eset_1i, eset_1r, eset_1n, eset_1l, eset_ss, ↓sIf, ↓sBrk, ↓sCnt, ↓sRetI, ↓sRetL, ↓sRetR, ↓sRet, ↓sRetZ, ↓sSkip, ↓sSw, ↓sK, ↓sPop, ↓sFor_t, ↓sast, ↓sastC, ↓szst, ↓spst, ↓sput, ↓sputZ, ↓sputR, ↓sputN, ↓sputC, ↓sCopy,
    ↓xi, ↓xl, ↓xr, ↓xc, ↓xcl, ↓xadd, ↓xsub, ↓xmul, ↓xdiv, ↓xrem, ↓xand, ↓xor, ↓xxor, ↓xshl, ↓xshr, ↓xneg, ↓xaddl, ↓xsubl, ↓xmull, ↓xdivl, ↓xreml, ↓xnegl, ↓xi2l, ↓xi2c, ↓xofC, ↓xite, ↓xitel, ↓xiter, ↓xmax, ↓xmin, ↓xabs, ↓xabsl,
    ↓xg, ↓xgR, ↓xgO, ↓oR, ↓xald, ↓xzld, ↓xpld, ↓xlen, ↓xstr, ↓xinst, ↓cNot, ↓cAnd, ↓cOr, ↓cEq, ↓cLt, ↓cGt, ↓cEq0, ↓cLt0, ↓cGt0, ↓cEqL, ↓cLtL, ↓cGtL, ↓cEqO,
    ↓kI, ↓kL, ↓kR, ↓kV, ↓kS, ↓kD, ↓kP, ↓kT, ↓CALL_t, ↓vI, ↓vL, ↓vR, ↓aN, ↓aC, aenv_i, aenv_l, aenv_r, aenv_0, List.replicate, Nat.reduceSub, Nat.reduceAdd, eset2, kill, List.set_cons_zero, List.set_cons_succ, List.set_nil, List.getElem?_cons_zero, List.getElem?_cons_succ, List.getElem?_nil, List.mem_cons, List.not_mem_nil, or_false, or_true, true_and, and_true, true_or, false_or, false_and, and_false, not_false_eq_true, not_true_eq_false, forall_const, false_imp_iff, imp_false, true_imp_iff, if_true, if_false, implies_true, reduceIte, reduceCtorEq,
    ↓onO_M, ↓onI_M1, ↓onI_M2, ↓onI_M3, ↓onI_M4, ↓onZ_M5, ↓onI_M6, ↓onI_M7, ↓onI_M8, ↓onI_M9, ↓onI_M10, ↓onI_M11, ↓fR_m1, ↓fR_m2, ↓fR_m3, ↓fR_m10, ↓fR_m11, ↓fR_m13, ↓fR_m14, ↓fR_m15, ↓fR_m16, ↓fR_m18, ↓fR_m19, ↓fI_m0, ↓fI_m4, ↓fI_m5, ↓fI_m6, ↓fI_m7, ↓fI_m8, ↓fI_m9, ↓fI_m12, ↓fI_m17, ↓fI_m20, ↓fI_m21, ↓fI_m22, ↓fI_m23,
    MHu_0, MHu_1, MHu_2, MHu_3, MHu_4, MHu_5, MHu_6, MHu_7, MHu_8, MHu_9, MHu_10, MHu_11, mfs_s4, mfs_s5, mfs_s6, mfs_s7, mfs_s8, mfs_s9, mfs_s12, mfs_s17, mfs_s20, mfs_s21, mfs_s22, mfs_s23, mfs_len, Nat.reduceLT, nI_add, nI_mulN, lit32, nI_clamp, vp_in_nI, nI_ltI, nI_eq, nI_leI, Nat.reduceMul, Nat.zero_add, Nat.add_zero, B_Mod_worst, M_Mod_worst]
  refine t_looksForLates (by omega) hb hW hn hS (fun B T => ?_)
  have hK := hK B T (va_up r 6 (lts S n (r 6))) rfl
  simp (disch := omega) only [↓sSeq, ↓sI_f, ↓sL_f, ↓sR_f, ↓sInc_f, fE_c, eset_0, eset_1i, eset_1r, eset_1n, eset_1l, eset_ss, ↓sIf, ↓sBrk, ↓sCnt, ↓sRetI, ↓sRetL, ↓sRetR, ↓sRet, ↓sRetZ, ↓sSkip, ↓sSw, ↓sK, ↓sPop, ↓sFor_t, ↓sast, ↓sastC, ↓szst, ↓spst, ↓sput, ↓sputZ, ↓sputR, ↓sputN, ↓sputC, ↓sCopy,
    ↓xi, ↓xl, ↓xr, ↓xc, ↓xcl, ↓xadd, ↓xsub, ↓xmul, ↓xdiv, ↓xrem, ↓xand, ↓xor, ↓xxor, ↓xshl, ↓xshr, ↓xneg, ↓xaddl, ↓xsubl, ↓xmull, ↓xdivl, ↓xreml, ↓xnegl, ↓xi2l, ↓xi2c, ↓xofC, ↓xite, ↓xitel, ↓xiter, ↓xmax, ↓xmin, ↓xabs, ↓xabsl,
    ↓xg, ↓xgR, ↓xgO, ↓oR, ↓xald, ↓xzld, ↓xpld, ↓xlen, ↓xstr, ↓xinst, ↓cNot, ↓cAnd, ↓cOr, ↓cEq, ↓cLt, ↓cGt, ↓cEq0, ↓cLt0, ↓cGt0, ↓cEqL, ↓cLtL, ↓cGtL, ↓cEqO,
    ↓kI, ↓kL, ↓kR, ↓kV, ↓kS, ↓kD, ↓kP, ↓kT, ↓CALL_t, ↓vI, ↓vL, ↓vR, ↓aN, ↓aC, aenv_i, aenv_l, aenv_r, aenv_0, List.replicate, Nat.reduceSub, Nat.reduceAdd, eset2, kill, List.set_cons_zero, List.set_cons_succ, List.set_nil, List.getElem?_cons_zero, List.getElem?_cons_succ, List.getElem?_nil, List.mem_cons, List.not_mem_nil, or_false, or_true, true_and, and_true, true_or, false_or, false_and, and_false, not_false_eq_true, not_true_eq_false, forall_const, false_imp_iff, imp_false, true_imp_iff, if_true, if_false, implies_true, reduceIte, reduceCtorEq,
    ↓onO_M, ↓onI_M1, ↓onI_M2, ↓onI_M3, ↓onI_M4, ↓onZ_M5, ↓onI_M6, ↓onI_M7, ↓onI_M8, ↓onI_M9, ↓onI_M10, ↓onI_M11, ↓fR_m1, ↓fR_m2, ↓fR_m3, ↓fR_m10, ↓fR_m11, ↓fR_m13, ↓fR_m14, ↓fR_m15, ↓fR_m16, ↓fR_m18, ↓fR_m19, ↓fI_m0, ↓fI_m4, ↓fI_m5, ↓fI_m6, ↓fI_m7, ↓fI_m8, ↓fI_m9, ↓fI_m12, ↓fI_m17, ↓fI_m20, ↓fI_m21, ↓fI_m22, ↓fI_m23,
    MHu_0, MHu_1, MHu_2, MHu_3, MHu_4, MHu_5, MHu_6, MHu_7, MHu_8, MHu_9, MHu_10, MHu_11, mfs_s4, mfs_s5, mfs_s6, mfs_s7, mfs_s8, mfs_s9, mfs_s12, mfs_s17, mfs_s20, mfs_s21, mfs_s22, mfs_s23, mfs_len, Nat.reduceLT, nI_add, nI_mulN, lit32, nI_clamp, vp_in_nI, nI_ltI, nI_eq, nI_leI, Nat.reduceMul, Nat.zero_add, Nat.add_zero, hS]
  by_cases h0 : n = 0
  · subst h0
    refine ⟨fun _ => ?_, fun c => absurd rfl c⟩
    simp only [if_true] at hK
    refine for_rule (fun m env σ => env = [some (.ref (mB X)), some (.int (-nI 5)), some (.int (nI 1))] ∧ σ = (MH X h i S I F B T (va_up r 6 (lts S 0 (r 6))), g)) 0 ⟨rfl, rfl⟩ ?_
    rintro m env σ P ⟨rfl, rfl⟩ hP
    simp (disch := omega) only [↓sSeq, ↓sI_f, ↓sL_f, ↓sR_f, ↓sInc_f, fE_c, eset_0, eset_1i, eset_1r, eset_1n, eset_1l, eset_ss, ↓sIf, ↓sBrk, ↓sCnt, ↓sRetI, ↓sRetL, ↓sRetR, ↓sRet, ↓sRetZ, ↓sSkip, ↓sSw, ↓sK, ↓sPop, ↓sFor_t, ↓sast, ↓sastC, ↓szst, ↓spst, ↓sput, ↓sputZ, ↓sputR, ↓sputN, ↓sputC, ↓sCopy,
    ↓xi, ↓xl, ↓xr, ↓xc, ↓xcl, ↓xadd, ↓xsub, ↓xmul, ↓xdiv, ↓xrem, ↓xand, ↓xor, ↓xxor, ↓xshl, ↓xshr, ↓xneg, ↓xaddl, ↓xsubl, ↓xmull, ↓xdivl, ↓xreml, ↓xnegl, ↓xi2l, ↓xi2c, ↓xofC, ↓xite, ↓xitel, ↓xiter, ↓xmax, ↓xmin, ↓xabs, ↓xabsl,
    ↓xg, ↓xgR, ↓xgO, ↓oR, ↓xald, ↓xzld, ↓xpld, ↓xlen, ↓xstr, ↓xinst, ↓cNot, ↓cAnd, ↓cOr, ↓cEq, ↓cLt, ↓cGt, ↓cEq0, ↓cLt0, ↓cGt0, ↓cEqL, ↓cLtL, ↓cGtL, ↓cEqO,
    ↓kI, ↓kL, ↓kR, ↓kV, ↓kS, ↓kD, ↓kP, ↓kT, ↓CALL_t, ↓vI, ↓vL, ↓vR, ↓aN, ↓aC, aenv_i, aenv_l, aenv_r, aenv_0, List.replicate, Nat.reduceSub, Nat.reduceAdd, eset2, kill, List.set_cons_zero, List.set_cons_succ, List.set_nil, List.getElem?_cons_zero, List.getElem?_cons_succ, List.getElem?_nil, List.mem_cons, List.not_mem_nil, or_false, or_true, true_and, and_true, true_or, false_or, false_and, and_false, not_false_eq_true, not_true_eq_false, forall_const, false_imp_iff, imp_false, true_imp_iff, if_true, if_false, implies_true, reduceIte, reduceCtorEq,
    ↓onO_M, ↓onI_M1, ↓onI_M2, ↓onI_M3, ↓onI_M4, ↓onZ_M5, ↓onI_M6, ↓onI_M7, ↓onI_M8, ↓onI_M9, ↓onI_M10, ↓onI_M11, ↓fR_m1, ↓fR_m2, ↓fR_m3, ↓fR_m10, ↓fR_m11, ↓fR_m13, ↓fR_m14, ↓fR_m15, ↓fR_m16, ↓fR_m18, ↓fR_m19, ↓fI_m0, ↓fI_m4, ↓fI_m5, ↓fI_m6, ↓fI_m7, ↓fI_m8, ↓fI_m9, ↓fI_m12, ↓fI_m17, ↓fI_m20, ↓fI_m21, ↓fI_m22, ↓fI_m23,
    MHu_0, MHu_1, MHu_2, MHu_3, MHu_4, MHu_5, MHu_6, MHu_7, MHu_8, MHu_9, MHu_10, MHu_11, mfs_s4, mfs_s5, mfs_s6, mfs_s7, mfs_s8, mfs_s9, mfs_s12, mfs_s17, mfs_s20, mfs_s21, mfs_s22, mfs_s23, mfs_len, Nat.reduceLT, nI_add, nI_mulN, lit32, nI_clamp, vp_in_nI, nI_ltI, nI_eq, nI_leI, Nat.reduceMul, Nat.zero_add, Nat.add_zero, hS]
    exact hK
  · refine ⟨fun c => absurd c h0, fun _ => ?_⟩
    simp only [if_neg h0] at hK
    refine for_rule (fun m env σ => ∃ (p : Nat), p + 1 + m = n ∧ env = [some (.ref (mB X)), some (.int (nI (worstR S (p + 1)))), some (.int (nI (p + 1)))] ∧ σ = (MH X h i S I F B T (va_up r 6 (lts S n (r 6))), g)) (n - 1) ⟨0, by omega, by simp [worstR], rfl⟩ ?_
    rintro m env σ P ⟨p, hp, rfl, rfl⟩ hP
    have hw := worstR_le (S := S) p
    simp (disch := omega) only [↓sSeq, ↓sI_f, ↓sL_f, ↓sR_f, ↓sInc_f, fE_c, eset_0, eset_1i, eset_1r, eset_1n, eset_1l, eset_ss, ↓sIf, ↓sBrk, ↓sCnt, ↓sRetI, ↓sRetL, ↓sRetR, ↓sRet, ↓sRetZ, ↓sSkip, ↓sSw, ↓sK, ↓sPop, ↓sFor_t, ↓sast, ↓sastC, ↓szst, ↓spst, ↓sput, ↓sputZ, ↓sputR, ↓sputN, ↓sputC, ↓sCopy,
    ↓xi, ↓xl, ↓xr, ↓xc, ↓xcl, ↓xadd, ↓xsub, ↓xmul, ↓xdiv, ↓xrem, ↓xand, ↓xor, ↓xxor, ↓xshl, ↓xshr, ↓xneg, ↓xaddl, ↓xsubl, ↓xmull, ↓xdivl, ↓xreml, ↓xnegl, ↓xi2l, ↓xi2c, ↓xofC, ↓xite, ↓xitel, ↓xiter, ↓xmax, ↓xmin, ↓xabs, ↓xabsl,
    ↓xg, ↓xgR, ↓xgO, ↓oR, ↓xald, ↓xzld, ↓xpld, ↓xlen, ↓xstr, ↓xinst, ↓cNot, ↓cAnd, ↓cOr, ↓cEq, ↓cLt, ↓cGt, ↓cEq0, ↓cLt0, ↓cGt0, ↓cEqL, ↓cLtL, ↓cGtL, ↓cEqO,
    ↓kI, ↓kL, ↓kR, ↓kV, ↓kS, ↓kD, ↓kP, ↓kT, ↓CALL_t, ↓vI, ↓vL, ↓vR, ↓aN, ↓aC, aenv_i, aenv_l, aenv_r, aenv_0, List.replicate, Nat.reduceSub, Nat.reduceAdd, eset2, kill, List.set_cons_zero, List.set_cons_succ, List.set_nil, List.getElem?_cons_zero, List.getElem?_cons_succ, List.getElem?_nil, List.mem_cons, List.not_mem_nil, or_false, or_true, true_and, and_true, true_or, false_or, false_and, and_false, not_false_eq_true, not_true_eq_false, forall_const, false_imp_iff, imp_false, true_imp_iff, if_true, if_false, implies_true, reduceIte, reduceCtorEq,
    ↓onO_M, ↓onI_M1, ↓onI_M2, ↓onI_M3, ↓onI_M4, ↓onZ_M5, ↓onI_M6, ↓onI_M7, ↓onI_M8, ↓onI_M9, ↓onI_M10, ↓onI_M11, ↓fR_m1, ↓fR_m2, ↓fR_m3, ↓fR_m10, ↓fR_m11, ↓fR_m13, ↓fR_m14, ↓fR_m15, ↓fR_m16, ↓fR_m18, ↓fR_m19, ↓fI_m0, ↓fI_m4, ↓fI_m5, ↓fI_m6, ↓fI_m7, ↓fI_m8, ↓fI_m9, ↓fI_m12, ↓fI_m17, ↓fI_m20, ↓fI_m21, ↓fI_m22, ↓fI_m23,
    MHu_0, MHu_1, MHu_2, MHu_3, MHu_4, MHu_5, MHu_6, MHu_7, MHu_8, MHu_9, MHu_10, MHu_11, mfs_s4, mfs_s5, mfs_s6, mfs_s7, mfs_s8, mfs_s9, mfs_s12, mfs_s17, mfs_s20, mfs_s21, mfs_s22, mfs_s23, mfs_len, Nat.reduceLT, nI_add, nI_mulN, lit32, nI_clamp, vp_in_nI, nI_ltI, nI_eq, nI_leI, Nat.reduceMul, Nat.zero_add, Nat.add_zero, hS]
    refine ⟨fun c => ?_, fun c => ?_⟩
    · simp (disch := omega) only [↓sSeq, ↓sI_f, ↓sL_f, ↓sR_f, ↓sInc_f, fE_c, eset_0, eset_1i, eset_1r, eset_1n, eset_1l, eset_ss, ↓sIf, ↓sBrk, ↓sCnt, ↓sRetI, ↓sRetL, ↓sRetR, ↓sRet, ↓sRetZ, ↓sSkip, ↓sSw, ↓sK, ↓sPop, ↓sFor_t, ↓sast, ↓sastC, ↓szst, ↓spst, ↓sput, ↓sputZ, ↓sputR, ↓sputN, ↓sputC, ↓sCopy,
    ↓xi, ↓xl, ↓xr, ↓xc, ↓xcl, ↓xadd, ↓xsub, ↓xmul, ↓xdiv, ↓xrem, ↓xand, ↓xor, ↓xxor, ↓xshl, ↓xshr, ↓xneg, ↓xaddl, ↓xsubl, ↓xmull, ↓xdivl, ↓xreml, ↓xnegl, ↓xi2l, ↓xi2c, ↓xofC, ↓xite, ↓xitel, ↓xiter, ↓xmax, ↓xmin, ↓xabs, ↓xabsl,
    ↓xg, ↓xgR, ↓xgO, ↓oR, ↓xald, ↓xzld, ↓xpld, ↓xlen, ↓xstr, ↓xinst, ↓cNot, ↓cAnd, ↓cOr, ↓cEq, ↓cLt, ↓cGt, ↓cEq0, ↓cLt0, ↓cGt0, ↓cEqL, ↓cLtL, ↓cGtL, ↓cEqO,
    ↓kI, ↓kL, ↓kR, ↓kV, ↓kS, ↓kD, ↓kP, ↓kT, ↓CALL_t, ↓vI, ↓vL, ↓vR, ↓aN, ↓aC, aenv_i, aenv_l, aenv_r, aenv_0, List.replicate, Nat.reduceSub, Nat.reduceAdd, eset2, kill, List.set_cons_zero, List.set_cons_succ, List.set_nil, List.getElem?_cons_zero, List.getElem?_cons_succ, List.getElem?_nil, List.mem_cons, List.not_mem_nil, or_false, or_true, true_and, and_true, true_or, false_or, false_and, and_false, not_false_eq_true, not_true_eq_false, forall_const, false_imp_iff, imp_false, true_imp_iff, if_true, if_false, implies_true, reduceIte, reduceCtorEq,
    ↓onO_M, ↓onI_M1, ↓onI_M2, ↓onI_M3, ↓onI_M4, ↓onZ_M5, ↓onI_M6, ↓onI_M7, ↓onI_M8, ↓onI_M9, ↓onI_M10, ↓onI_M11, ↓fR_m1, ↓fR_m2, ↓fR_m3, ↓fR_m10, ↓fR_m11, ↓fR_m13, ↓fR_m14, ↓fR_m15, ↓fR_m16, ↓fR_m18, ↓fR_m19, ↓fI_m0, ↓fI_m4, ↓fI_m5, ↓fI_m6, ↓fI_m7, ↓fI_m8, ↓fI_m9, ↓fI_m12, ↓fI_m17, ↓fI_m20, ↓fI_m21, ↓fI_m22, ↓fI_m23,
    MHu_0, MHu_1, MHu_2, MHu_3, MHu_4, MHu_5, MHu_6, MHu_7, MHu_8, MHu_9, MHu_10, MHu_11, mfs_s4, mfs_s5, mfs_s6, mfs_s7, mfs_s8, mfs_s9, mfs_s12, mfs_s17, mfs_s20, mfs_s21, mfs_s22, mfs_s23, mfs_len, Nat.reduceLT, nI_add, nI_mulN, lit32, nI_clamp, vp_in_nI, nI_ltI, nI_eq, nI_leI, Nat.reduceMul, Nat.zero_add, Nat.add_zero, L_Mod_worst_1, vu_s, lts_i]
      refine ⟨fun q => ?_, fun q => ?_⟩
      · exact hP (m - 1) _ _ (by omega) ⟨p + 1, by omega, by rw [show worstR S (p + 1 + 1) = p + 1 from if_pos q], rfl⟩
      · exact hP (m - 1) _ _ (by omega) ⟨p + 1, by omega, by rw [show worstR S (p + 1 + 1) = worstR S (p + 1) from if_neg q], rfl⟩
    · have : p + 1 = n := by omega
      subst this
      exact hK
/-- how many of the first so many come ahead of one -/
def aheadR (S : Nat → Int32) (p : Nat) : Nat → Nat
  | 0 => 0
  | q + 1 => aheadR S p q + (if sLate S q < sLate S p ∨ (sLate S q = sLate S p ∧ q < p) then 1 else 0)
theorem aheadR_le (p : Nat) : ∀ n, aheadR S p n ≤ n
  | 0 => Nat.le_refl _
  | n + 1 => by
    have := aheadR_le p n
    show aheadR S p n + (if sLate S n < sLate S p ∨ (sLate S n = sLate S p ∧ n < p) then 1 else 0) ≤ n + 1
    split <;> omega
theorem ahead_1 {p q : Nat} (h : sLate S q < sLate S p ∨ (sLate S q = sLate S p ∧ q < p)) : aheadR S p (q + 1) = aheadR S p q + 1 := by
  show aheadR S p q + (if sLate S q < sLate S p ∨ (sLate S q = sLate S p ∧ q < p) then 1 else 0) = _
  rw [if_pos h]
theorem ahead_0 {p q : Nat} (h : ¬ (sLate S q < sLate S p ∨ (sLate S q = sLate S p ∧ q < p))) : aheadR S p (q + 1) = aheadR S p q := by
  show aheadR S p q + (if sLate S q < sLate S p ∨ (sLate S q = sLate S p ∧ q < p) then 1 else 0) = _
  rw [if_neg h, Nat.add_zero]
def orderR (S : Nat → Int32) (n k : Nat) : Nat → Nat
  | 0 => 0
  | p + 1 => if aheadR S p n = k then p else orderR S n k p
def fOrder (S : Nat → Int32) (k : Int32) : Int32 := if isPer S k then nI (orderR S (nP S) (ix k) (nP S)) else -1
theorem t_order {b : Nat} (hd : 8 ≤ d) (hb : b < 2 ^ 30) (hW : WF b S) {x : Int32} (hK : ∀ B T r', r' 11 = r 11 → K (some (.int (fOrder S x))) (MH X h i S I F B T r')) : CALL X M_Mod_order d [.ref (mB X), .int x] (MH X h i S I F B T r) K := by
  obtain ⟨n, hn, hS⟩ := hW.1
  obtain ⟨d, rfl⟩ : ∃ e, d = e + 1 := ⟨d - 1, by omega⟩
  refine call_of (by decide +kernel) (by decide) (F_Mod_order X d) (Nat.le_of_ble_eq_true rfl) ?_
  intro g
  simp (disch := omega) only [↓sSeq, ↓sI_f, ↓sL_f, ↓sR_f, ↓sInc_f, fE_c, eset_0, eset_1i, eset_1r, eset_1n, eset_1l, eset_ss, ↓sIf, ↓sBrk, ↓sCnt, ↓sRetI, ↓sRetL, ↓sRetR, ↓sRet, ↓sRetZ, ↓sSkip, ↓sSw, ↓sK, ↓sPop, ↓sFor_t, ↓sast, ↓sastC, ↓szst, ↓spst, ↓sput, ↓sputZ, ↓sputR, ↓sputN, ↓sputC, ↓sCopy,
    ↓xi, ↓xl, ↓xr, ↓xc, ↓xcl, ↓xadd, ↓xsub, ↓xmul, ↓xdiv, ↓xrem, ↓xand, ↓xor, ↓xxor, ↓xshl, ↓xshr, ↓xneg, ↓xaddl, ↓xsubl, ↓xmull, ↓xdivl, ↓xreml, ↓xnegl, ↓xi2l, ↓xi2c, ↓xofC, ↓xite, ↓xitel, ↓xiter, ↓xmax, ↓xmin, ↓xabs, ↓xabsl,
    ↓xg, ↓xgR, ↓xgO, ↓oR, ↓xald, ↓xzld, ↓xpld, ↓xlen, ↓xstr, ↓xinst, ↓cNot, ↓cAnd, ↓cOr, ↓cEq, ↓cLt, ↓cGt, ↓cEq0, ↓cLt0, ↓cGt0, ↓cEqL, ↓cLtL, ↓cGtL, ↓cEqO,
    ↓kI, ↓kL, ↓kR, ↓kV, ↓kS, ↓kD, ↓kP, ↓kT, ↓CALL_t, ↓vI, ↓vL, ↓vR, ↓aN, ↓aC, aenv_i, aenv_l, aenv_r, aenv_0, List.replicate, Nat.reduceSub, Nat.reduceAdd, eset2, kill, List.set_cons_zero, List.set_cons_succ, List.set_nil, List.getElem?_cons_zero, List.getElem?_cons_succ, List.getElem?_nil, List.mem_cons, List.not_mem_nil, or_false, or_true, true_and, and_true, true_or, false_or, false_and, and_false, not_false_eq_true, not_true_eq_false, forall_const, false_imp_iff, imp_false, true_imp_iff, if_true, if_false, implies_true, reduceIte, reduceCtorEq,
    ↓onO_M, ↓onI_M1, ↓onI_M2, ↓onI_M3, ↓onI_M4, ↓onZ_M5, ↓onI_M6, ↓onI_M7, ↓onI_M8, ↓onI_M9, ↓onI_M10, ↓onI_M11, ↓fR_m1, ↓fR_m2, ↓fR_m3, ↓fR_m10, ↓fR_m11, ↓fR_m13, ↓fR_m14, ↓fR_m15, ↓fR_m16, ↓fR_m18, ↓fR_m19, ↓fI_m0, ↓fI_m4, ↓fI_m5, ↓fI_m6, ↓fI_m7, ↓fI_m8, ↓fI_m9, ↓fI_m12, ↓fI_m17, ↓fI_m20, ↓fI_m21, ↓fI_m22, ↓fI_m23,
    MHu_0, MHu_1, MHu_2, MHu_3, MHu_4, MHu_5, MHu_6, MHu_7, MHu_8, MHu_9, MHu_10, MHu_11, mfs_s4, mfs_s5, mfs_s6, mfs_s7, mfs_s8, mfs_s9, mfs_s12, mfs_s17, mfs_s20, mfs_s21, mfs_s22, mfs_s23, mfs_len, Nat.reduceLT, nI_add, nI_mulN, lit32, nI_clamp, vp_in_nI, nI_ltI, nI_eq, nI_leI, Nat.reduceMul, Nat.zero_add, Nat.add_zero, B_Mod_order, M_Mod_order]
  refine t_per (by omega) hn hS (fun k hk e hi => ?_) (fun hi => ?_)
  · subst e
    simp only [fOrder, hi, if_true, nP_of hn hS, ix_nI (show k < 2 ^ 31 by omega)] at hK
    simp (disch := omega) only [↓sSeq, ↓sI_f, ↓sL_f, ↓sR_f, ↓sInc_f, fE_c, eset_0, eset_1i, eset_1r, eset_1n, eset_1l, eset_ss, ↓sIf, ↓sBrk, ↓sCnt, ↓sRetI, ↓sRetL, ↓sRetR, ↓sRet, ↓sRetZ, ↓sSkip, ↓sSw, ↓sK, ↓sPop, ↓sFor_t, ↓sast, ↓sastC, ↓szst, ↓spst, ↓sput, ↓sputZ, ↓sputR, ↓sputN, ↓sputC, ↓sCopy,
    ↓xi, ↓xl, ↓xr, ↓xc, ↓xcl, ↓xadd, ↓xsub, ↓xmul, ↓xdiv, ↓xrem, ↓xand, ↓xor, ↓xxor, ↓xshl, ↓xshr, ↓xneg, ↓xaddl, ↓xsubl, ↓xmull, ↓xdivl, ↓xreml, ↓xnegl, ↓xi2l, ↓xi2c, ↓xofC, ↓xite, ↓xitel, ↓xiter, ↓xmax, ↓xmin, ↓xabs, ↓xabsl,
    ↓xg, ↓xgR, ↓xgO, ↓oR, ↓xald, ↓xzld, ↓xpld, ↓xlen, ↓xstr, ↓xinst, ↓cNot, ↓cAnd, ↓cOr, ↓cEq, ↓cLt, ↓cGt, ↓cEq0, ↓cLt0, ↓cGt0, ↓cEqL, ↓cLtL, ↓cGtL, ↓cEqO,
    ↓kI, ↓kL, ↓kR, ↓kV, ↓kS, ↓kD, ↓kP, ↓kT, ↓CALL_t, ↓vI, ↓vL, ↓vR, ↓aN, ↓aC, aenv_i, aenv_l, aenv_r, aenv_0, List.replicate, Nat.reduceSub, Nat.reduceAdd, eset2, kill, List.set_cons_zero, List.set_cons_succ, List.set_nil, List.getElem?_cons_zero, List.getElem?_cons_succ, List.getElem?_nil, List.mem_cons, List.not_mem_nil, or_false, or_true, true_and, and_true, true_or, false_or, false_and, and_false, not_false_eq_true, not_true_eq_false, forall_const, false_imp_iff, imp_false, true_imp_iff, if_true, if_false, implies_true, reduceIte, reduceCtorEq,
    ↓onO_M, ↓onI_M1, ↓onI_M2, ↓onI_M3, ↓onI_M4, ↓onZ_M5, ↓onI_M6, ↓onI_M7, ↓onI_M8, ↓onI_M9, ↓onI_M10, ↓onI_M11, ↓fR_m1, ↓fR_m2, ↓fR_m3, ↓fR_m10, ↓fR_m11, ↓fR_m13, ↓fR_m14, ↓fR_m15, ↓fR_m16, ↓fR_m18, ↓fR_m19, ↓fI_m0, ↓fI_m4, ↓fI_m5, ↓fI_m6, ↓fI_m7, ↓fI_m8, ↓fI_m9, ↓fI_m12, ↓fI_m17, ↓fI_m20, ↓fI_m21, ↓fI_m22, ↓fI_m23,
    MHu_0, MHu_1, MHu_2, MHu_3, MHu_4, MHu_5, MHu_6, MHu_7, MHu_8, MHu_9, MHu_10, MHu_11, mfs_s4, mfs_s5, mfs_s6, mfs_s7, mfs_s8, mfs_s9, mfs_s12, mfs_s17, mfs_s20, mfs_s21, mfs_s22, mfs_s23, mfs_len, Nat.reduceLT, nI_add, nI_mulN, lit32, nI_clamp, vp_in_nI, nI_ltI, nI_eq, nI_leI, Nat.reduceMul, Nat.zero_add, Nat.add_zero]
    refine t_looksForLates (by omega) hb hW hn hS (fun B T => ?_)
    have hK := hK B T (va_up r 6 (lts S n (r 6))) rfl
    simp (disch := omega) only [↓sSeq, ↓sI_f, ↓sL_f, ↓sR_f, ↓sInc_f, fE_c, eset_0, eset_1i, eset_1r, eset_1n, eset_1l, eset_ss, ↓sIf, ↓sBrk, ↓sCnt, ↓sRetI, ↓sRetL, ↓sRetR, ↓sRet, ↓sRetZ, ↓sSkip, ↓sSw, ↓sK, ↓sPop, ↓sFor_t, ↓sast, ↓sastC, ↓szst, ↓spst, ↓sput, ↓sputZ, ↓sputR, ↓sputN, ↓sputC, ↓sCopy,
    ↓xi, ↓xl, ↓xr, ↓xc, ↓xcl, ↓xadd, ↓xsub, ↓xmul, ↓xdiv, ↓xrem, ↓xand, ↓xor, ↓xxor, ↓xshl, ↓xshr, ↓xneg, ↓xaddl, ↓xsubl, ↓xmull, ↓xdivl, ↓xreml, ↓xnegl, ↓xi2l, ↓xi2c, ↓xofC, ↓xite, ↓xitel, ↓xiter, ↓xmax, ↓xmin, ↓xabs, ↓xabsl,
    ↓xg, ↓xgR, ↓xgO, ↓oR, ↓xald, ↓xzld, ↓xpld, ↓xlen, ↓xstr, ↓xinst, ↓cNot, ↓cAnd, ↓cOr, ↓cEq, ↓cLt, ↓cGt, ↓cEq0, ↓cLt0, ↓cGt0, ↓cEqL, ↓cLtL, ↓cGtL, ↓cEqO,
    ↓kI, ↓kL, ↓kR, ↓kV, ↓kS, ↓kD, ↓kP, ↓kT, ↓CALL_t, ↓vI, ↓vL, ↓vR, ↓aN, ↓aC, aenv_i, aenv_l, aenv_r, aenv_0, List.replicate, Nat.reduceSub, Nat.reduceAdd, eset2, kill, List.set_cons_zero, List.set_cons_succ, List.set_nil, List.getElem?_cons_zero, List.getElem?_cons_succ, List.getElem?_nil, List.mem_cons, List.not_mem_nil, or_false, or_true, true_and, and_true, true_or, false_or, false_and, and_false, not_false_eq_true, not_true_eq_false, forall_const, false_imp_iff, imp_false, true_imp_iff, if_true, if_false, implies_true, reduceIte, reduceCtorEq,
    ↓onO_M, ↓onI_M1, ↓onI_M2, ↓onI_M3, ↓onI_M4, ↓onZ_M5, ↓onI_M6, ↓onI_M7, ↓onI_M8, ↓onI_M9, ↓onI_M10, ↓onI_M11, ↓fR_m1, ↓fR_m2, ↓fR_m3, ↓fR_m10, ↓fR_m11, ↓fR_m13, ↓fR_m14, ↓fR_m15, ↓fR_m16, ↓fR_m18, ↓fR_m19, ↓fI_m0, ↓fI_m4, ↓fI_m5, ↓fI_m6, ↓fI_m7, ↓fI_m8, ↓fI_m9, ↓fI_m12, ↓fI_m17, ↓fI_m20, ↓fI_m21, ↓fI_m22, ↓fI_m23,
    MHu_0, MHu_1, MHu_2, MHu_3, MHu_4, MHu_5, MHu_6, MHu_7, MHu_8, MHu_9, MHu_10, MHu_11, mfs_s4, mfs_s5, mfs_s6, mfs_s7, mfs_s8, mfs_s9, mfs_s12, mfs_s17, mfs_s20, mfs_s21, mfs_s22, mfs_s23, mfs_len, Nat.reduceLT, nI_add, nI_mulN, lit32, nI_clamp, vp_in_nI, nI_ltI, nI_eq, nI_leI, Nat.reduceMul, Nat.zero_add, Nat.add_zero]
    refine for_rule (fun m env σ => ∃ (p : Nat) (x4 x5 : Option Value), p + m = n ∧ env = [some (.ref (mB X)), some (.int (nI k)), some (.int (nI (orderR S n k p))), some (.int (nI p)), x4, x5] ∧ σ = (MH X h i S I F B T (va_up r 6 (lts S n (r 6))), g)) n ⟨0, _, _, by omega, rfl, rfl⟩ ?_
    rintro m env σ P ⟨p, x4, x5, hp, rfl, rfl⟩ hP
    simp (disch := omega) only [↓sSeq, ↓sI_f, ↓sL_f, ↓sR_f, ↓sInc_f, fE_c, eset_0, eset_1i, eset_1r, eset_1n, eset_1l, eset_ss, ↓sIf, ↓sBrk, ↓sCnt, ↓sRetI, ↓sRetL, ↓sRetR, ↓sRet, ↓sRetZ, ↓sSkip, ↓sSw, ↓sK, ↓sPop, ↓sFor_t, ↓sast, ↓sastC, ↓szst, ↓spst, ↓sput, ↓sputZ, ↓sputR, ↓sputN, ↓sputC, ↓sCopy,
    ↓xi, ↓xl, ↓xr, ↓xc, ↓xcl, ↓xadd, ↓xsub, ↓xmul, ↓xdiv, ↓xrem, ↓xand, ↓xor, ↓xxor, ↓xshl, ↓xshr, ↓xneg, ↓xaddl, ↓xsubl, ↓xmull, ↓xdivl, ↓xreml, ↓xnegl, ↓xi2l, ↓xi2c, ↓xofC, ↓xite, ↓xitel, ↓xiter, ↓xmax, ↓xmin, ↓xabs, ↓xabsl,
    ↓xg, ↓xgR, ↓xgO, ↓oR, ↓xald, ↓xzld, ↓xpld, ↓xlen, ↓xstr, ↓xinst, ↓cNot, ↓cAnd, ↓cOr, ↓cEq, ↓cLt, ↓cGt, ↓cEq0, ↓cLt0, ↓cGt0, ↓cEqL, ↓cLtL, ↓cGtL, ↓cEqO,
    ↓kI, ↓kL, ↓kR, ↓kV, ↓kS, ↓kD, ↓kP, ↓kT, ↓CALL_t, ↓vI, ↓vL, ↓vR, ↓aN, ↓aC, aenv_i, aenv_l, aenv_r, aenv_0, List.replicate, Nat.reduceSub, Nat.reduceAdd, eset2, kill, List.set_cons_zero, List.set_cons_succ, List.set_nil, List.getElem?_cons_zero, List.getElem?_cons_succ, List.getElem?_nil, List.mem_cons, List.not_mem_nil, or_false, or_true, true_and, and_true, true_or, false_or, false_and, and_false, not_false_eq_true, not_true_eq_false, forall_const, false_imp_iff, imp_false, true_imp_iff, if_true, if_false, implies_true, reduceIte, reduceCtorEq,
    ↓onO_M, ↓onI_M1, ↓onI_M2, ↓onI_M3, ↓onI_M4, ↓onZ_M5, ↓onI_M6, ↓onI_M7, ↓onI_M8, ↓onI_M9, ↓onI_M10, ↓onI_M11, ↓fR_m1, ↓fR_m2, ↓fR_m3, ↓fR_m10, ↓fR_m11, ↓fR_m13, ↓fR_m14, ↓fR_m15, ↓fR_m16, ↓fR_m18, ↓fR_m19, ↓fI_m0, ↓fI_m4, ↓fI_m5, ↓fI_m6, ↓fI_m7, ↓fI_m8, ↓fI_m9, ↓fI_m12, ↓fI_m17, ↓fI_m20, ↓fI_m21, ↓fI_m22, ↓fI_m23,
    MHu_0, MHu_1, MHu_2, MHu_3, MHu_4, MHu_5, MHu_6, MHu_7, MHu_8, MHu_9, MHu_10, MHu_11, mfs_s4, mfs_s5, mfs_s6, mfs_s7, mfs_s8, mfs_s9, mfs_s12, mfs_s17, mfs_s20, mfs_s21, mfs_s22, mfs_s23, mfs_len, Nat.reduceLT, nI_add, nI_mulN, lit32, nI_clamp, vp_in_nI, nI_ltI, nI_eq, nI_leI, Nat.reduceMul, Nat.zero_add, Nat.add_zero, hS]
    refine ⟨fun c => ?_, fun c => ?_⟩
    · simp (disch := omega) only [↓sSeq, ↓sI_f, ↓sL_f, ↓sR_f, ↓sInc_f, fE_c, eset_0, eset_1i, eset_1r, eset_1n, eset_1l, eset_ss, ↓sIf, ↓sBrk, ↓sCnt, ↓sRetI, ↓sRetL, ↓sRetR, ↓sRet, ↓sRetZ, ↓sSkip, ↓sSw, ↓sK, ↓sPop, ↓sFor_t, ↓sast, ↓sastC, ↓szst, ↓spst, ↓sput, ↓sputZ, ↓sputR, ↓sputN, ↓sputC, ↓sCopy,
    ↓xi, ↓xl, ↓xr, ↓xc, ↓xcl, ↓xadd, ↓xsub, ↓xmul, ↓xdiv, ↓xrem, ↓xand, ↓xor, ↓xxor, ↓xshl, ↓xshr, ↓xneg, ↓xaddl, ↓xsubl, ↓xmull, ↓xdivl, ↓xreml, ↓xnegl, ↓xi2l, ↓xi2c, ↓xofC, ↓xite, ↓xitel, ↓xiter, ↓xmax, ↓xmin, ↓xabs, ↓xabsl,
    ↓xg, ↓xgR, ↓xgO, ↓oR, ↓xald, ↓xzld, ↓xpld, ↓xlen, ↓xstr, ↓xinst, ↓cNot, ↓cAnd, ↓cOr, ↓cEq, ↓cLt, ↓cGt, ↓cEq0, ↓cLt0, ↓cGt0, ↓cEqL, ↓cLtL, ↓cGtL, ↓cEqO,
    ↓kI, ↓kL, ↓kR, ↓kV, ↓kS, ↓kD, ↓kP, ↓kT, ↓CALL_t, ↓vI, ↓vL, ↓vR, ↓aN, ↓aC, aenv_i, aenv_l, aenv_r, aenv_0, List.replicate, Nat.reduceSub, Nat.reduceAdd, eset2, kill, List.set_cons_zero, List.set_cons_succ, List.set_nil, List.getElem?_cons_zero, List.getElem?_cons_succ, List.getElem?_nil, List.mem_cons, List.not_mem_nil, or_false, or_true, true_and, and_true, true_or, false_or, false_and, and_false, not_false_eq_true, not_true_eq_false, forall_const, false_imp_iff, imp_false, true_imp_iff, if_true, if_false, implies_true, reduceIte, reduceCtorEq,
    ↓onO_M, ↓onI_M1, ↓onI_M2, ↓onI_M3, ↓onI_M4, ↓onZ_M5, ↓onI_M6, ↓onI_M7, ↓onI_M8, ↓onI_M9, ↓onI_M10, ↓onI_M11, ↓fR_m1, ↓fR_m2, ↓fR_m3, ↓fR_m10, ↓fR_m11, ↓fR_m13, ↓fR_m14, ↓fR_m15, ↓fR_m16, ↓fR_m18, ↓fR_m19, ↓fI_m0, ↓fI_m4, ↓fI_m5, ↓fI_m6, ↓fI_m7, ↓fI_m8, ↓fI_m9, ↓fI_m12, ↓fI_m17, ↓fI_m20, ↓fI_m21, ↓fI_m22, ↓fI_m23,
    MHu_0, MHu_1, MHu_2, MHu_3, MHu_4, MHu_5, MHu_6, MHu_7, MHu_8, MHu_9, MHu_10, MHu_11, mfs_s4, mfs_s5, mfs_s6, mfs_s7, mfs_s8, mfs_s9, mfs_s12, mfs_s17, mfs_s20, mfs_s21, mfs_s22, mfs_s23, mfs_len, Nat.reduceLT, nI_add, nI_mulN, lit32, nI_clamp, vp_in_nI, nI_ltI, nI_eq, nI_leI, Nat.reduceMul, Nat.zero_add, Nat.add_zero, L_Mod_order_2]
      refine for_rule (fun m2 env σ => ∃ (q : Nat), q + m2 = n ∧ env = [some (.ref (mB X)), some (.int (nI k)), some (.int (nI (orderR S n k p))), some (.int (nI p)), some (.int (nI (aheadR S p q))), some (.int (nI q))] ∧ σ = (MH X h i S I F B T (va_up r 6 (lts S n (r 6))), g)) n ⟨0, by omega, rfl, rfl⟩ ?_
      rintro m2 env σ P2 ⟨q, hq, rfl, rfl⟩ hP2
      have ha := aheadR_le (S := S) p q
      simp (disch := omega) only [↓sSeq, ↓sI_f, ↓sL_f, ↓sR_f, ↓sInc_f, fE_c, eset_0, eset_1i, eset_1r, eset_1n, eset_1l, eset_ss, ↓sIf, ↓sBrk, ↓sCnt, ↓sRetI, ↓sRetL, ↓sRetR, ↓sRet, ↓sRetZ, ↓sSkip, ↓sSw, ↓sK, ↓sPop, ↓sFor_t, ↓sast, ↓sastC, ↓szst, ↓spst, ↓sput, ↓sputZ, ↓sputR, ↓sputN, ↓sputC, ↓sCopy,
    ↓xi, ↓xl, ↓xr, ↓xc, ↓xcl, ↓xadd, ↓xsub, ↓xmul, ↓xdiv, ↓xrem, ↓xand, ↓xor, ↓xxor, ↓xshl, ↓xshr, ↓xneg, ↓xaddl, ↓xsubl, ↓xmull, ↓xdivl, ↓xreml, ↓xnegl, ↓xi2l, ↓xi2c, ↓xofC, ↓xite, ↓xitel, ↓xiter, ↓xmax, ↓xmin, ↓xabs, ↓xabsl,
    ↓xg, ↓xgR, ↓xgO, ↓oR, ↓xald, ↓xzld, ↓xpld, ↓xlen, ↓xstr, ↓xinst, ↓cNot, ↓cAnd, ↓cOr, ↓cEq, ↓cLt, ↓cGt, ↓cEq0, ↓cLt0, ↓cGt0, ↓cEqL, ↓cLtL, ↓cGtL, ↓cEqO,
    ↓kI, ↓kL, ↓kR, ↓kV, ↓kS, ↓kD, ↓kP, ↓kT, ↓CALL_t, ↓vI, ↓vL, ↓vR, ↓aN, ↓aC, aenv_i, aenv_l, aenv_r, aenv_0, List.replicate, Nat.reduceSub, Nat.reduceAdd, eset2, kill, List.set_cons_zero, List.set_cons_succ, List.set_nil, List.getElem?_cons_zero, List.getElem?_cons_succ, List.getElem?_nil, List.mem_cons, List.not_mem_nil, or_false, or_true, true_and, and_true, true_or, false_or, false_and, and_false, not_false_eq_true, not_true_eq_false, forall_const, false_imp_iff, imp_false, true_imp_iff, if_true, if_false, implies_true, reduceIte, reduceCtorEq,
    ↓onO_M, ↓onI_M1, ↓onI_M2, ↓onI_M3, ↓onI_M4, ↓onZ_M5, ↓onI_M6, ↓onI_M7, ↓onI_M8, ↓onI_M9, ↓onI_M10, ↓onI_M11, ↓fR_m1, ↓fR_m2, ↓fR_m3, ↓fR_m10, ↓fR_m11, ↓fR_m13, ↓fR_m14, ↓fR_m15, ↓fR_m16, ↓fR_m18, ↓fR_m19, ↓fI_m0, ↓fI_m4, ↓fI_m5, ↓fI_m6, ↓fI_m7, ↓fI_m8, ↓fI_m9, ↓fI_m12, ↓fI_m17, ↓fI_m20, ↓fI_m21, ↓fI_m22, ↓fI_m23,
    MHu_0, MHu_1, MHu_2, MHu_3, MHu_4, MHu_5, MHu_6, MHu_7, MHu_8, MHu_9, MHu_10, MHu_11, mfs_s4, mfs_s5, mfs_s6, mfs_s7, mfs_s8, mfs_s9, mfs_s12, mfs_s17, mfs_s20, mfs_s21, mfs_s22, mfs_s23, mfs_len, Nat.reduceLT, nI_add, nI_mulN, lit32, nI_clamp, vp_in_nI, nI_ltI, nI_eq, nI_leI, Nat.reduceMul, Nat.zero_add, Nat.add_zero, hS]
      refine ⟨fun c => ?_, fun c => ?_⟩
      · simp (disch := omega) only [↓sSeq, ↓sI_f, ↓sL_f, ↓sR_f, ↓sInc_f, fE_c, eset_0, eset_1i, eset_1r, eset_1n, eset_1l, eset_ss, ↓sIf, ↓sBrk, ↓sCnt, ↓sRetI, ↓sRetL, ↓sRetR, ↓sRet, ↓sRetZ, ↓sSkip, ↓sSw, ↓sK, ↓sPop, ↓sFor_t, ↓sast, ↓sastC, ↓szst, ↓spst, ↓sput, ↓sputZ, ↓sputR, ↓sputN, ↓sputC, ↓sCopy,
    ↓xi, ↓xl, ↓xr, ↓xc, ↓xcl, ↓xadd, ↓xsub, ↓xmul, ↓xdiv, ↓xrem, ↓xand, ↓xor, ↓xxor, ↓xshl, ↓xshr, ↓xneg, ↓xaddl, ↓xsubl, ↓xmull, ↓xdivl, ↓xreml, ↓xnegl, ↓xi2l, ↓xi2c, ↓xofC, ↓xite, ↓xitel, ↓xiter, ↓xmax, ↓xmin, ↓xabs, ↓xabsl,
    ↓xg, ↓xgR, ↓xgO, ↓oR, ↓xald, ↓xzld, ↓xpld, ↓xlen, ↓xstr, ↓xinst, ↓cNot, ↓cAnd, ↓cOr, ↓cEq, ↓cLt, ↓cGt, ↓cEq0, ↓cLt0, ↓cGt0, ↓cEqL, ↓cLtL, ↓cGtL, ↓cEqO,
    ↓kI, ↓kL, ↓kR, ↓kV, ↓kS, ↓kD, ↓kP, ↓kT, ↓CALL_t, ↓vI, ↓vL, ↓vR, ↓aN, ↓aC, aenv_i, aenv_l, aenv_r, aenv_0, List.replicate, Nat.reduceSub, Nat.reduceAdd, eset2, kill, List.set_cons_zero, List.set_cons_succ, List.set_nil, List.getElem?_cons_zero, List.getElem?_cons_succ, List.getElem?_nil, List.mem_cons, List.not_mem_nil, or_false, or_true, true_and, and_true, true_or, false_or, false_and, and_false, not_false_eq_true, not_true_eq_false, forall_const, false_imp_iff, imp_false, true_imp_iff, if_true, if_false, implies_true, reduceIte, reduceCtorEq,
    ↓onO_M, ↓onI_M1, ↓onI_M2, ↓onI_M3, ↓onI_M4, ↓onZ_M5, ↓onI_M6, ↓onI_M7, ↓onI_M8, ↓onI_M9, ↓onI_M10, ↓onI_M11, ↓fR_m1, ↓fR_m2, ↓fR_m3, ↓fR_m10, ↓fR_m11, ↓fR_m13, ↓fR_m14, ↓fR_m15, ↓fR_m16, ↓fR_m18, ↓fR_m19, ↓fI_m0, ↓fI_m4, ↓fI_m5, ↓fI_m6, ↓fI_m7, ↓fI_m8, ↓fI_m9, ↓fI_m12, ↓fI_m17, ↓fI_m20, ↓fI_m21, ↓fI_m22, ↓fI_m23,
    MHu_0, MHu_1, MHu_2, MHu_3, MHu_4, MHu_5, MHu_6, MHu_7, MHu_8, MHu_9, MHu_10, MHu_11, mfs_s4, mfs_s5, mfs_s6, mfs_s7, mfs_s8, mfs_s9, mfs_s12, mfs_s17, mfs_s20, mfs_s21, mfs_s22, mfs_s23, mfs_len, Nat.reduceLT, nI_add, nI_mulN, lit32, nI_clamp, vp_in_nI, nI_ltI, nI_eq, nI_leI, Nat.reduceMul, Nat.zero_add, Nat.add_zero, L_Mod_order_1, vu_s, lts_i]
        refine ⟨fun a => ?_, fun a => ⟨fun a2 => ⟨fun a3 => ?_, fun a3 => ?_⟩, fun a2 => ?_⟩⟩
        · exact hP2 (m2 - 1) _ _ (by omega) ⟨q + 1, by omega, by rw [ahead_1 (Or.inl a)], rfl⟩
        · exact hP2 (m2 - 1) _ _ (by omega) ⟨q + 1, by omega, by rw [ahead_1 (Or.inr ⟨a2, a3⟩)], rfl⟩
        · exact hP2 (m2 - 1) _ _ (by omega) ⟨q + 1, by omega, by rw [ahead_0 (fun z => z.elim a (fun z => a3 z.2))], rfl⟩
        · exact hP2 (m2 - 1) _ _ (by omega) ⟨q + 1, by omega, by rw [ahead_0 (fun z => z.elim a (fun z => a2 z.1))], rfl⟩
      · have : q = n := by omega
        subst this
        refine ⟨fun a => ?_, fun a => ?_⟩
        · exact hP (m - 1) _ _ (by omega) ⟨p + 1, some (.int (nI (aheadR S p q))), some (.int (nI q)), by omega, by rw [show orderR S q k (p + 1) = p from if_pos a], rfl⟩
        · exact hP (m - 1) _ _ (by omega) ⟨p + 1, some (.int (nI (aheadR S p q))), some (.int (nI q)), by omega, by rw [show orderR S q k (p + 1) = orderR S q k p from if_neg a], rfl⟩
    · have : p = n := by omega
      subst this
      exact hK
  · have hK := hK B T r rfl
    simp (disch := omega) only [↓sSeq, ↓sI_f, ↓sL_f, ↓sR_f, ↓sInc_f, fE_c, eset_0, eset_1i, eset_1r, eset_1n, eset_1l, eset_ss, ↓sIf, ↓sBrk, ↓sCnt, ↓sRetI, ↓sRetL, ↓sRetR, ↓sRet, ↓sRetZ, ↓sSkip, ↓sSw, ↓sK, ↓sPop, ↓sFor_t, ↓sast, ↓sastC, ↓szst, ↓spst, ↓sput, ↓sputZ, ↓sputR, ↓sputN, ↓sputC, ↓sCopy,
    ↓xi, ↓xl, ↓xr, ↓xc, ↓xcl, ↓xadd, ↓xsub, ↓xmul, ↓xdiv, ↓xrem, ↓xand, ↓xor, ↓xxor, ↓xshl, ↓xshr, ↓xneg, ↓xaddl, ↓xsubl, ↓xmull, ↓xdivl, ↓xreml, ↓xnegl, ↓xi2l, ↓xi2c, ↓xofC, ↓xite, ↓xitel, ↓xiter, ↓xmax, ↓xmin, ↓xabs, ↓xabsl,
    ↓xg, ↓xgR, ↓xgO, ↓oR, ↓xald, ↓xzld, ↓xpld, ↓xlen, ↓xstr, ↓xinst, ↓cNot, ↓cAnd, ↓cOr, ↓cEq, ↓cLt, ↓cGt, ↓cEq0, ↓cLt0, ↓cGt0, ↓cEqL, ↓cLtL, ↓cGtL, ↓cEqO,
    ↓kI, ↓kL, ↓kR, ↓kV, ↓kS, ↓kD, ↓kP, ↓kT, ↓CALL_t, ↓vI, ↓vL, ↓vR, ↓aN, ↓aC, aenv_i, aenv_l, aenv_r, aenv_0, List.replicate, Nat.reduceSub, Nat.reduceAdd, eset2, kill, List.set_cons_zero, List.set_cons_succ, List.set_nil, List.getElem?_cons_zero, List.getElem?_cons_succ, List.getElem?_nil, List.mem_cons, List.not_mem_nil, or_false, or_true, true_and, and_true, true_or, false_or, false_and, and_false, not_false_eq_true, not_true_eq_false, forall_const, false_imp_iff, imp_false, true_imp_iff, if_true, if_false, implies_true, reduceIte, reduceCtorEq,
    ↓onO_M, ↓onI_M1, ↓onI_M2, ↓onI_M3, ↓onI_M4, ↓onZ_M5, ↓onI_M6, ↓onI_M7, ↓onI_M8, ↓onI_M9, ↓onI_M10, ↓onI_M11, ↓fR_m1, ↓fR_m2, ↓fR_m3, ↓fR_m10, ↓fR_m11, ↓fR_m13, ↓fR_m14, ↓fR_m15, ↓fR_m16, ↓fR_m18, ↓fR_m19, ↓fI_m0, ↓fI_m4, ↓fI_m5, ↓fI_m6, ↓fI_m7, ↓fI_m8, ↓fI_m9, ↓fI_m12, ↓fI_m17, ↓fI_m20, ↓fI_m21, ↓fI_m22, ↓fI_m23,
    MHu_0, MHu_1, MHu_2, MHu_3, MHu_4, MHu_5, MHu_6, MHu_7, MHu_8, MHu_9, MHu_10, MHu_11, mfs_s4, mfs_s5, mfs_s6, mfs_s7, mfs_s8, mfs_s9, mfs_s12, mfs_s17, mfs_s20, mfs_s21, mfs_s22, mfs_s23, mfs_len, Nat.reduceLT, nI_add, nI_mulN, lit32, nI_clamp, vp_in_nI, nI_ltI, nI_eq, nI_leI, Nat.reduceMul, Nat.zero_add, Nat.add_zero]
    (simp [fOrder, hi] at hK; exact hK)
theorem cp_all {n : Nat} {f g : Nat → Int32} {j : Nat} (h : j < n) : cp n f g j = f j := if_pos h
theorem t_image (hd : 1 ≤ d) (hK : K (some (.int (S 11))) (MH X h (upd i 4 (nI 1)) S (cp 915 S I) F B T r)) : CALL X M_Mod_image d [.ref (mB X)] (MH X h i S I F B T r) K := by
  obtain ⟨d, rfl⟩ : ∃ e, d = e + 1 := ⟨d - 1, by omega⟩
  refine call_of (by decide +kernel) (by decide) (F_Mod_image X d) (Nat.le_of_ble_eq_true rfl) ?_
  intro g
  simp (disch := omega) only [↓sSeq, ↓sI_f, ↓sL_f, ↓sR_f, ↓sInc_f, fE_c, eset_0, eset_1i, eset_1r, eset_1n, eset_1l, eset_ss, ↓sIf, ↓sBrk, ↓sCnt, ↓sRetI, ↓sRetL, ↓sRetR, ↓sRet, ↓sRetZ, ↓sSkip, ↓sSw, ↓sK, ↓sPop, ↓sFor_t, ↓sast, ↓sastC, ↓szst, ↓spst, ↓sput, ↓sputZ, ↓sputR, ↓sputN, ↓sputC, ↓sCopy,
    ↓xi, ↓xl, ↓xr, ↓xc, ↓xcl, ↓xadd, ↓xsub, ↓xmul, ↓xdiv, ↓xrem, ↓xand, ↓xor, ↓xxor, ↓xshl, ↓xshr, ↓xneg, ↓xaddl, ↓xsubl, ↓xmull, ↓xdivl, ↓xreml, ↓xnegl, ↓xi2l, ↓xi2c, ↓xofC, ↓xite, ↓xitel, ↓xiter, ↓xmax, ↓xmin, ↓xabs, ↓xabsl,
    ↓xg, ↓xgR, ↓xgO, ↓oR, ↓xald, ↓xzld, ↓xpld, ↓xlen, ↓xstr, ↓xinst, ↓cNot, ↓cAnd, ↓cOr, ↓cEq, ↓cLt, ↓cGt, ↓cEq0, ↓cLt0, ↓cGt0, ↓cEqL, ↓cLtL, ↓cGtL, ↓cEqO,
    ↓kI, ↓kL, ↓kR, ↓kV, ↓kS, ↓kD, ↓kP, ↓kT, ↓CALL_t, ↓vI, ↓vL, ↓vR, ↓aN, ↓aC, aenv_i, aenv_l, aenv_r, aenv_0, List.replicate, Nat.reduceSub, Nat.reduceAdd, eset2, kill, List.set_cons_zero, List.set_cons_succ, List.set_nil, List.getElem?_cons_zero, List.getElem?_cons_succ, List.getElem?_nil, List.mem_cons, List.not_mem_nil, or_false, or_true, true_and, and_true, true_or, false_or, false_and, and_false, not_false_eq_true, not_true_eq_false, forall_const, false_imp_iff, imp_false, true_imp_iff, if_true, if_false, implies_true, reduceIte, reduceCtorEq,
    ↓onO_M, ↓onI_M1, ↓onI_M2, ↓onI_M3, ↓onI_M4, ↓onZ_M5, ↓onI_M6, ↓onI_M7, ↓onI_M8, ↓onI_M9, ↓onI_M10, ↓onI_M11, ↓fR_m1, ↓fR_m2, ↓fR_m3, ↓fR_m10, ↓fR_m11, ↓fR_m13, ↓fR_m14, ↓fR_m15, ↓fR_m16, ↓fR_m18, ↓fR_m19, ↓fI_m0, ↓fI_m4, ↓fI_m5, ↓fI_m6, ↓fI_m7, ↓fI_m8, ↓fI_m9, ↓fI_m12, ↓fI_m17, ↓fI_m20, ↓fI_m21, ↓fI_m22, ↓fI_m23,
    MHu_0, MHu_1, MHu_2, MHu_3, MHu_4, MHu_5, MHu_6, MHu_7, MHu_8, MHu_9, MHu_10, MHu_11, mfs_s4, mfs_s5, mfs_s6, mfs_s7, mfs_s8, mfs_s9, mfs_s12, mfs_s17, mfs_s20, mfs_s21, mfs_s22, mfs_s23, mfs_len, Nat.reduceLT, nI_add, nI_mulN, lit32, nI_clamp, vp_in_nI, nI_ltI, nI_eq, nI_leI, Nat.reduceMul, Nat.zero_add, Nat.add_zero, B_Mod_image, M_Mod_image]
  refine for_rule (fun m env σ => ∃ (p : Nat), p + m = 915 ∧ env = [some (.ref (mB X)), some (.int (nI p))] ∧ σ = (MH X h i S (cp p S I) F B T r, g)) 915 ⟨0, by omega, rfl, by rw [cp_0]⟩ ?_
  rintro m env σ P ⟨p, hp, rfl, rfl⟩ hP
  simp (disch := omega) only [↓sSeq, ↓sI_f, ↓sL_f, ↓sR_f, ↓sInc_f, fE_c, eset_0, eset_1i, eset_1r, eset_1n, eset_1l, eset_ss, ↓sIf, ↓sBrk, ↓sCnt, ↓sRetI, ↓sRetL, ↓sRetR, ↓sRet, ↓sRetZ, ↓sSkip, ↓sSw, ↓sK, ↓sPop, ↓sFor_t, ↓sast, ↓sastC, ↓szst, ↓spst, ↓sput, ↓sputZ, ↓sputR, ↓sputN, ↓sputC, ↓sCopy,
    ↓xi, ↓xl, ↓xr, ↓xc, ↓xcl, ↓xadd, ↓xsub, ↓xmul, ↓xdiv, ↓xrem, ↓xand, ↓xor, ↓xxor, ↓xshl, ↓xshr, ↓xneg, ↓xaddl, ↓xsubl, ↓xmull, ↓xdivl, ↓xreml, ↓xnegl, ↓xi2l, ↓xi2c, ↓xofC, ↓xite, ↓xitel, ↓xiter, ↓xmax, ↓xmin, ↓xabs, ↓xabsl,
    ↓xg, ↓xgR, ↓xgO, ↓oR, ↓xald, ↓xzld, ↓xpld, ↓xlen, ↓xstr, ↓xinst, ↓cNot, ↓cAnd, ↓cOr, ↓cEq, ↓cLt, ↓cGt, ↓cEq0, ↓cLt0, ↓cGt0, ↓cEqL, ↓cLtL, ↓cGtL, ↓cEqO,
    ↓kI, ↓kL, ↓kR, ↓kV, ↓kS, ↓kD, ↓kP, ↓kT, ↓CALL_t, ↓vI, ↓vL, ↓vR, ↓aN, ↓aC, aenv_i, aenv_l, aenv_r, aenv_0, List.replicate, Nat.reduceSub, Nat.reduceAdd, eset2, kill, List.set_cons_zero, List.set_cons_succ, List.set_nil, List.getElem?_cons_zero, List.getElem?_cons_succ, List.getElem?_nil, List.mem_cons, List.not_mem_nil, or_false, or_true, true_and, and_true, true_or, false_or, false_and, and_false, not_false_eq_true, not_true_eq_false, forall_const, false_imp_iff, imp_false, true_imp_iff, if_true, if_false, implies_true, reduceIte, reduceCtorEq,
    ↓onO_M, ↓onI_M1, ↓onI_M2, ↓onI_M3, ↓onI_M4, ↓onZ_M5, ↓onI_M6, ↓onI_M7, ↓onI_M8, ↓onI_M9, ↓onI_M10, ↓onI_M11, ↓fR_m1, ↓fR_m2, ↓fR_m3, ↓fR_m10, ↓fR_m11, ↓fR_m13, ↓fR_m14, ↓fR_m15, ↓fR_m16, ↓fR_m18, ↓fR_m19, ↓fI_m0, ↓fI_m4, ↓fI_m5, ↓fI_m6, ↓fI_m7, ↓fI_m8, ↓fI_m9, ↓fI_m12, ↓fI_m17, ↓fI_m20, ↓fI_m21, ↓fI_m22, ↓fI_m23,
    MHu_0, MHu_1, MHu_2, MHu_3, MHu_4, MHu_5, MHu_6, MHu_7, MHu_8, MHu_9, MHu_10, MHu_11, mfs_s4, mfs_s5, mfs_s6, mfs_s7, mfs_s8, mfs_s9, mfs_s12, mfs_s17, mfs_s20, mfs_s21, mfs_s22, mfs_s23, mfs_len, Nat.reduceLT, nI_add, nI_mulN, lit32, nI_clamp, vp_in_nI, nI_ltI, nI_eq, nI_leI, Nat.reduceMul, Nat.zero_add, Nat.add_zero]
  refine ⟨fun c => ?_, fun c => ?_⟩
  · simp (disch := omega) only [↓sSeq, ↓sI_f, ↓sL_f, ↓sR_f, ↓sInc_f, fE_c, eset_0, eset_1i, eset_1r, eset_1n, eset_1l, eset_ss, ↓sIf, ↓sBrk, ↓sCnt, ↓sRetI, ↓sRetL, ↓sRetR, ↓sRet, ↓sRetZ, ↓sSkip, ↓sSw, ↓sK, ↓sPop, ↓sFor_t, ↓sast, ↓sastC, ↓szst, ↓spst, ↓sput, ↓sputZ, ↓sputR, ↓sputN, ↓sputC, ↓sCopy,
    ↓xi, ↓xl, ↓xr, ↓xc, ↓xcl, ↓xadd, ↓xsub, ↓xmul, ↓xdiv, ↓xrem, ↓xand, ↓xor, ↓xxor, ↓xshl, ↓xshr, ↓xneg, ↓xaddl, ↓xsubl, ↓xmull, ↓xdivl, ↓xreml, ↓xnegl, ↓xi2l, ↓xi2c, ↓xofC, ↓xite, ↓xitel, ↓xiter, ↓xmax, ↓xmin, ↓xabs, ↓xabsl,
    ↓xg, ↓xgR, ↓xgO, ↓oR, ↓xald, ↓xzld, ↓xpld, ↓xlen, ↓xstr, ↓xinst, ↓cNot, ↓cAnd, ↓cOr, ↓cEq, ↓cLt, ↓cGt, ↓cEq0, ↓cLt0, ↓cGt0, ↓cEqL, ↓cLtL, ↓cGtL, ↓cEqO,
    ↓kI, ↓kL, ↓kR, ↓kV, ↓kS, ↓kD, ↓kP, ↓kT, ↓CALL_t, ↓vI, ↓vL, ↓vR, ↓aN, ↓aC, aenv_i, aenv_l, aenv_r, aenv_0, List.replicate, Nat.reduceSub, Nat.reduceAdd, eset2, kill, List.set_cons_zero, List.set_cons_succ, List.set_nil, List.getElem?_cons_zero, List.getElem?_cons_succ, List.getElem?_nil, List.mem_cons, List.not_mem_nil, or_false, or_true, true_and, and_true, true_or, false_or, false_and, and_false, not_false_eq_true, not_true_eq_false, forall_const, false_imp_iff, imp_false, true_imp_iff, if_true, if_false, implies_true, reduceIte, reduceCtorEq,
    ↓onO_M, ↓onI_M1, ↓onI_M2, ↓onI_M3, ↓onI_M4, ↓onZ_M5, ↓onI_M6, ↓onI_M7, ↓onI_M8, ↓onI_M9, ↓onI_M10, ↓onI_M11, ↓fR_m1, ↓fR_m2, ↓fR_m3, ↓fR_m10, ↓fR_m11, ↓fR_m13, ↓fR_m14, ↓fR_m15, ↓fR_m16, ↓fR_m18, ↓fR_m19, ↓fI_m0, ↓fI_m4, ↓fI_m5, ↓fI_m6, ↓fI_m7, ↓fI_m8, ↓fI_m9, ↓fI_m12, ↓fI_m17, ↓fI_m20, ↓fI_m21, ↓fI_m22, ↓fI_m23,
    MHu_0, MHu_1, MHu_2, MHu_3, MHu_4, MHu_5, MHu_6, MHu_7, MHu_8, MHu_9, MHu_10, MHu_11, mfs_s4, mfs_s5, mfs_s6, mfs_s7, mfs_s8, mfs_s9, mfs_s12, mfs_s17, mfs_s20, mfs_s21, mfs_s22, mfs_s23, mfs_len, Nat.reduceLT, nI_add, nI_mulN, lit32, nI_clamp, vp_in_nI, nI_ltI, nI_eq, nI_leI, Nat.reduceMul, Nat.zero_add, Nat.add_zero, L_Mod_image_1]
    rw [cp_up rfl]
    exact hP (m - 1) _ _ (by omega) ⟨p + 1, by omega, rfl, rfl⟩
  · have : p = 915 := by omega
    subst this
    exact hK
def fUndo (S I : Nat → Int32) (h4 : Int32) : Int32 × (Nat → Int32) := if h4 = 0 then (-3, S) else (I 11, cp 915 I S)
theorem t_undo (hd : 1 ≤ d) (hK : K (some (.int (fUndo S I (i 4)).1)) (MH X h i (fUndo S I (i 4)).2 I F B T r)) : CALL X M_Mod_undo d [.ref (mB X)] (MH X h i S I F B T r) K := by
  obtain ⟨d, rfl⟩ : ∃ e, d = e + 1 := ⟨d - 1, by omega⟩
  refine call_of (by decide +kernel) (by decide) (F_Mod_undo X d) (Nat.le_of_ble_eq_true rfl) ?_
  intro g
  simp (disch := omega) only [↓sSeq, ↓sI_f, ↓sL_f, ↓sR_f, ↓sInc_f, fE_c, eset_0, eset_1i, eset_1r, eset_1n, eset_1l, eset_ss, ↓sIf, ↓sBrk, ↓sCnt, ↓sRetI, ↓sRetL, ↓sRetR, ↓sRet, ↓sRetZ, ↓sSkip, ↓sSw, ↓sK, ↓sPop, ↓sFor_t, ↓sast, ↓sastC, ↓szst, ↓spst, ↓sput, ↓sputZ, ↓sputR, ↓sputN, ↓sputC, ↓sCopy,
    ↓xi, ↓xl, ↓xr, ↓xc, ↓xcl, ↓xadd, ↓xsub, ↓xmul, ↓xdiv, ↓xrem, ↓xand, ↓xor, ↓xxor, ↓xshl, ↓xshr, ↓xneg, ↓xaddl, ↓xsubl, ↓xmull, ↓xdivl, ↓xreml, ↓xnegl, ↓xi2l, ↓xi2c, ↓xofC, ↓xite, ↓xitel, ↓xiter, ↓xmax, ↓xmin, ↓xabs, ↓xabsl,
    ↓xg, ↓xgR, ↓xgO, ↓oR, ↓xald, ↓xzld, ↓xpld, ↓xlen, ↓xstr, ↓xinst, ↓cNot, ↓cAnd, ↓cOr, ↓cEq, ↓cLt, ↓cGt, ↓cEq0, ↓cLt0, ↓cGt0, ↓cEqL, ↓cLtL, ↓cGtL, ↓cEqO,
    ↓kI, ↓kL, ↓kR, ↓kV, ↓kS, ↓kD, ↓kP, ↓kT, ↓CALL_t, ↓vI, ↓vL, ↓vR, ↓aN, ↓aC, aenv_i, aenv_l, aenv_r, aenv_0, List.replicate, Nat.reduceSub, Nat.reduceAdd, eset2, kill, List.set_cons_zero, List.set_cons_succ, List.set_nil, List.getElem?_cons_zero, List.getElem?_cons_succ, List.getElem?_nil, List.mem_cons, List.not_mem_nil, or_false, or_true, true_and, and_true, true_or, false_or, false_and, and_false, not_false_eq_true, not_true_eq_false, forall_const, false_imp_iff, imp_false, true_imp_iff, if_true, if_false, implies_true, reduceIte, reduceCtorEq,
    ↓onO_M, ↓onI_M1, ↓onI_M2, ↓onI_M3, ↓onI_M4, ↓onZ_M5, ↓onI_M6, ↓onI_M7, ↓onI_M8, ↓onI_M9, ↓onI_M10, ↓onI_M11, ↓fR_m1, ↓fR_m2, ↓fR_m3, ↓fR_m10, ↓fR_m11, ↓fR_m13, ↓fR_m14, ↓fR_m15, ↓fR_m16, ↓fR_m18, ↓fR_m19, ↓fI_m0, ↓fI_m4, ↓fI_m5, ↓fI_m6, ↓fI_m7, ↓fI_m8, ↓fI_m9, ↓fI_m12, ↓fI_m17, ↓fI_m20, ↓fI_m21, ↓fI_m22, ↓fI_m23,
    MHu_0, MHu_1, MHu_2, MHu_3, MHu_4, MHu_5, MHu_6, MHu_7, MHu_8, MHu_9, MHu_10, MHu_11, mfs_s4, mfs_s5, mfs_s6, mfs_s7, mfs_s8, mfs_s9, mfs_s12, mfs_s17, mfs_s20, mfs_s21, mfs_s22, mfs_s23, mfs_len, Nat.reduceLT, nI_add, nI_mulN, lit32, nI_clamp, vp_in_nI, nI_ltI, nI_eq, nI_leI, Nat.reduceMul, Nat.zero_add, Nat.add_zero, B_Mod_undo, M_Mod_undo]
  refine ⟨fun c => ?_, fun c => ?_⟩
  · have c : i 4 = 0 := c
    (simp [fUndo, c] at hK; exact hK)
  · have c : ¬ i 4 = 0 := c
    simp only [fUndo, if_neg c] at hK
    refine for_rule (fun m env σ => ∃ (p : Nat), p + m = 915 ∧ env = [some (.ref (mB X)), some (.int (nI p))] ∧ σ = (MH X h i (cp p I S) I F B T r, g)) 915 ⟨0, by omega, rfl, by rw [cp_0]⟩ ?_
    rintro m env σ P ⟨p, hp, rfl, rfl⟩ hP
    simp (disch := omega) only [↓sSeq, ↓sI_f, ↓sL_f, ↓sR_f, ↓sInc_f, fE_c, eset_0, eset_1i, eset_1r, eset_1n, eset_1l, eset_ss, ↓sIf, ↓sBrk, ↓sCnt, ↓sRetI, ↓sRetL, ↓sRetR, ↓sRet, ↓sRetZ, ↓sSkip, ↓sSw, ↓sK, ↓sPop, ↓sFor_t, ↓sast, ↓sastC, ↓szst, ↓spst, ↓sput, ↓sputZ, ↓sputR, ↓sputN, ↓sputC, ↓sCopy,
    ↓xi, ↓xl, ↓xr, ↓xc, ↓xcl, ↓xadd, ↓xsub, ↓xmul, ↓xdiv, ↓xrem, ↓xand, ↓xor, ↓xxor, ↓xshl, ↓xshr, ↓xneg, ↓xaddl, ↓xsubl, ↓xmull, ↓xdivl, ↓xreml, ↓xnegl, ↓xi2l, ↓xi2c, ↓xofC, ↓xite, ↓xitel, ↓xiter, ↓xmax, ↓xmin, ↓xabs, ↓xabsl,
    ↓xg, ↓xgR, ↓xgO, ↓oR, ↓xald, ↓xzld, ↓xpld, ↓xlen, ↓xstr, ↓xinst, ↓cNot, ↓cAnd, ↓cOr, ↓cEq, ↓cLt, ↓cGt, ↓cEq0, ↓cLt0, ↓cGt0, ↓cEqL, ↓cLtL, ↓cGtL, ↓cEqO,
    ↓kI, ↓kL, ↓kR, ↓kV, ↓kS, ↓kD, ↓kP, ↓kT, ↓CALL_t, ↓vI, ↓vL, ↓vR, ↓aN, ↓aC, aenv_i, aenv_l, aenv_r, aenv_0, List.replicate, Nat.reduceSub, Nat.reduceAdd, eset2, kill, List.set_cons_zero, List.set_cons_succ, List.set_nil, List.getElem?_cons_zero, List.getElem?_cons_succ, List.getElem?_nil, List.mem_cons, List.not_mem_nil, or_false, or_true, true_and, and_true, true_or, false_or, false_and, and_false, not_false_eq_true, not_true_eq_false, forall_const, false_imp_iff, imp_false, true_imp_iff, if_true, if_false, implies_true, reduceIte, reduceCtorEq,
    ↓onO_M, ↓onI_M1, ↓onI_M2, ↓onI_M3, ↓onI_M4, ↓onZ_M5, ↓onI_M6, ↓onI_M7, ↓onI_M8, ↓onI_M9, ↓onI_M10, ↓onI_M11, ↓fR_m1, ↓fR_m2, ↓fR_m3, ↓fR_m10, ↓fR_m11, ↓fR_m13, ↓fR_m14, ↓fR_m15, ↓fR_m16, ↓fR_m18, ↓fR_m19, ↓fI_m0, ↓fI_m4, ↓fI_m5, ↓fI_m6, ↓fI_m7, ↓fI_m8, ↓fI_m9, ↓fI_m12, ↓fI_m17, ↓fI_m20, ↓fI_m21, ↓fI_m22, ↓fI_m23,
    MHu_0, MHu_1, MHu_2, MHu_3, MHu_4, MHu_5, MHu_6, MHu_7, MHu_8, MHu_9, MHu_10, MHu_11, mfs_s4, mfs_s5, mfs_s6, mfs_s7, mfs_s8, mfs_s9, mfs_s12, mfs_s17, mfs_s20, mfs_s21, mfs_s22, mfs_s23, mfs_len, Nat.reduceLT, nI_add, nI_mulN, lit32, nI_clamp, vp_in_nI, nI_ltI, nI_eq, nI_leI, Nat.reduceMul, Nat.zero_add, Nat.add_zero]
    refine ⟨fun c => ?_, fun c => ?_⟩
    · simp (disch := omega) only [↓sSeq, ↓sI_f, ↓sL_f, ↓sR_f, ↓sInc_f, fE_c, eset_0, eset_1i, eset_1r, eset_1n, eset_1l, eset_ss, ↓sIf, ↓sBrk, ↓sCnt, ↓sRetI, ↓sRetL, ↓sRetR, ↓sRet, ↓sRetZ, ↓sSkip, ↓sSw, ↓sK, ↓sPop, ↓sFor_t, ↓sast, ↓sastC, ↓szst, ↓spst, ↓sput, ↓sputZ, ↓sputR, ↓sputN, ↓sputC, ↓sCopy,
    ↓xi, ↓xl, ↓xr, ↓xc, ↓xcl, ↓xadd, ↓xsub, ↓xmul, ↓xdiv, ↓xrem, ↓xand, ↓xor, ↓xxor, ↓xshl, ↓xshr, ↓xneg, ↓xaddl, ↓xsubl, ↓xmull, ↓xdivl, ↓xreml, ↓xnegl, ↓xi2l, ↓xi2c, ↓xofC, ↓xite, ↓xitel, ↓xiter, ↓xmax, ↓xmin, ↓xabs, ↓xabsl,
    ↓xg, ↓xgR, ↓xgO, ↓oR, ↓xald, ↓xzld, ↓xpld, ↓xlen, ↓xstr, ↓xinst, ↓cNot, ↓cAnd, ↓cOr, ↓cEq, ↓cLt, ↓cGt, ↓cEq0, ↓cLt0, ↓cGt0, ↓cEqL, ↓cLtL, ↓cGtL, ↓cEqO,
    ↓kI, ↓kL, ↓kR, ↓kV, ↓kS, ↓kD, ↓kP, ↓kT, ↓CALL_t, ↓vI, ↓vL, ↓vR, ↓aN, ↓aC, aenv_i, aenv_l, aenv_r, aenv_0, List.replicate, Nat.reduceSub, Nat.reduceAdd, eset2, kill, List.set_cons_zero, List.set_cons_succ, List.set_nil, List.getElem?_cons_zero, List.getElem?_cons_succ, List.getElem?_nil, List.mem_cons, List.not_mem_nil, or_false, or_true, true_and, and_true, true_or, false_or, false_and, and_false, not_false_eq_true, not_true_eq_false, forall_const, false_imp_iff, imp_false, true_imp_iff, if_true, if_false, implies_true, reduceIte, reduceCtorEq,
    ↓onO_M, ↓onI_M1, ↓onI_M2, ↓onI_M3, ↓onI_M4, ↓onZ_M5, ↓onI_M6, ↓onI_M7, ↓onI_M8, ↓onI_M9, ↓onI_M10, ↓onI_M11, ↓fR_m1, ↓fR_m2, ↓fR_m3, ↓fR_m10, ↓fR_m11, ↓fR_m13, ↓fR_m14, ↓fR_m15, ↓fR_m16, ↓fR_m18, ↓fR_m19, ↓fI_m0, ↓fI_m4, ↓fI_m5, ↓fI_m6, ↓fI_m7, ↓fI_m8, ↓fI_m9, ↓fI_m12, ↓fI_m17, ↓fI_m20, ↓fI_m21, ↓fI_m22, ↓fI_m23,
    MHu_0, MHu_1, MHu_2, MHu_3, MHu_4, MHu_5, MHu_6, MHu_7, MHu_8, MHu_9, MHu_10, MHu_11, mfs_s4, mfs_s5, mfs_s6, mfs_s7, mfs_s8, mfs_s9, mfs_s12, mfs_s17, mfs_s20, mfs_s21, mfs_s22, mfs_s23, mfs_len, Nat.reduceLT, nI_add, nI_mulN, lit32, nI_clamp, vp_in_nI, nI_ltI, nI_eq, nI_leI, Nat.reduceMul, Nat.zero_add, Nat.add_zero, L_Mod_undo_1]
      rw [cp_up rfl]
      exact hP (m - 1) _ _ (by omega) ⟨p + 1, by omega, rfl, rfl⟩
    · have : p = 915 := by omega
      subst this
      rw [cp_all (by omega)]
      exact hK
end DAYS2
