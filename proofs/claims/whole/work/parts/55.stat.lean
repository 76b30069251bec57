section STT
variable {X : WX} {d : Nat} {K : Option Value → HM → Prop} {P : Nat → Option PD} {Q : Nat → Option HDs} {dh : HM} {st : Nat → SR} {nt : Nat → Nat → Int32} {t : Nat × (Nat → Int32)} {im : Int32}
/-- a state's people and house are those that its numbers tell of -/
def SK (P : Nat → Option PD) (Q : Nat → Option HDs) (z : SR) : Prop := (∀ p, p < 6 → ∃ a q, z.2.1 p = some a ∧ P a = some q ∧ (p < nP z.1 → q = (ix (z.1 (18 + p)), (p, z.1 (24 + p))))) ∧ Q z.2.2 = some (sTells z.1 200 3, (sTells z.1 205 1, progS z.1))
theorem SK.of {z z' : SR} (h : SK P Q z) (h2 : z'.2 = z.2) (h11 : z'.1 11 = z.1 11) (hk : ∀ j, 17 ≤ j → j < 30 → z'.1 j = z.1 j) (hh : ∀ j, 200 ≤ j → z'.1 j = z.1 j) : SK P Q z' := by
  have hn : nP z'.1 = nP z.1 := by unfold nP; rw [h11]
  have ho : hold z'.1 = hold z.1 := by unfold hold; rw [hk 17 (by omega) (by omega)]
  have ht : ∀ w nn, 200 ≤ w → sTells z'.1 w nn = sTells z.1 w nn := fun w nn hw => by unfold sTells; rw [hk 17 (by omega) (by omega), ho, hh _ (by omega)]
  have hp : progS z'.1 = progS z.1 := by
    unfold progS
    rw [hk 17 (by omega) (by omega), ho, hh (210 + hold z.1) (by omega)]
    split
    · rfl
    · exact List.map_congr_left (fun j _ => hh _ (by omega))
  refine ⟨fun p h6 => ?_, ?_⟩
  · obtain ⟨a, q, e1, e2, e3⟩ := h.1 p h6
    exact ⟨a, q, by rw [h2]; exact e1, e2, fun g => by rw [hk (18 + p) (by omega) (by omega), hk (24 + p) (by omega) (by omega)]; exact e3 (hn ▸ g)⟩
  · rw [h2, ht _ _ (by omega), ht _ _ (by omega), hp]
    exact h.2
theorem jabs_e {x : Int32} : jabs x = if x < 0 then -x else x := by
  unfold jabs
  by_cases c : 0 ≤ x
  · rw [if_pos c, if_neg (Int32.not_lt.mpr c)]
  · rw [if_neg c, if_pos (Int32.not_le.mp c), Int32.zero_sub]
section TK
variable {k a p D : Nat} {v : Int32} {o : Option Nat}
theorem t_tk0 (hd : 1 ≤ d) {h : HM} (hK : K (some (.int 0)) h) : CALL X M_Person_taken d [.ref a, .ref (SB X k)] h K := by
  obtain ⟨d, rfl⟩ : ∃ e, d = e + 1 := ⟨d - 1, by omega⟩
  refine call_of (by decide +kernel) (by decide) (F_Person_taken X d) (Nat.le_of_ble_eq_true rfl) ?_
  intro g
  simp (disch := first | omega | rfl | (simp (disch := omega) only [vuS, vuN])) only [↓sSeq, ↓sI_f, ↓sL_f, ↓sR_f, ↓sInc_f, fE_c, eset_0, eset_1i, eset_1r, eset_1n, eset_1l, eset_ss, ↓sIf, ↓sBrk, ↓sCnt, ↓sRetI, ↓sRetL, ↓sRetR, ↓sRet, ↓sRetZ, ↓sSkip, ↓sSw, ↓sK, ↓sPop, ↓sFor_t, ↓sast, ↓sastC, ↓szst, ↓spst, ↓sput, ↓sputZ, ↓sputR, ↓sputN, ↓sputC, ↓sCopy,
    ↓xi, ↓xl, ↓xr, ↓xc, ↓xcl, ↓xadd, ↓xsub, ↓xmul, ↓xdiv, ↓xrem, ↓xand, ↓xor, ↓xxor, ↓xshl, ↓xshr, ↓xneg, ↓xaddl, ↓xsubl, ↓xmull, ↓xdivl, ↓xreml, ↓xnegl, ↓xi2l, ↓xi2c, ↓xofC, ↓xite, ↓xitel, ↓xiter, ↓xmax, ↓xmin, ↓xabs, ↓xabsl,
    ↓xg, ↓xgR, ↓xgO, ↓oR, ↓xald, ↓xzld, ↓xpld, ↓xlen, ↓xstr, ↓xinst, ↓cNot, ↓cAnd, ↓cOr, ↓cEq, ↓cLt, ↓cGt, ↓cEq0, ↓cLt0, ↓cGt0, ↓cEqL, ↓cLtL, ↓cGtL, ↓cEqO,
    ↓kI, ↓kL, ↓kR, ↓kV, ↓kS, ↓kD_e, ↓kP, ↓kT, ↓CALL_t, ↓vI, ↓vL, ↓vR, ↓aN, ↓aC, aenv_i, aenv_l, aenv_r, aenv_0, List.replicate, Nat.reduceSub, Nat.reduceAdd, eset2, kill, List.set_cons_zero, List.set_cons_succ, List.set_nil, List.getElem?_cons_zero, List.getElem?_cons_succ, List.getElem?_nil, List.mem_cons, List.not_mem_nil, or_false, or_true, true_and, and_true, true_or, false_or, false_and, and_false, not_false_eq_true, not_true_eq_false, forall_const, false_imp_iff, imp_false, true_imp_iff, if_true, if_false, implies_true, reduceIte, reduceCtorEq,
    ↓onO_CF, ↓onO_CT, ↓onI_CT1, ↓onO_CN, ↓onI_CN1, ↓onI_CN2, ↓onI_CN3, ↓onI_CN4, ↓onI_CN5, ↓onI_CN6, ↓onI_CN7, ↓onI_CN8, ↓onO_CS, ↓onI_CS1, ↓onP_CS2, ↓onI_CS3, ↓onI_CS4, ↓onI_CS5, ↓fR_f0, ↓fR_f1, ↓fR_f2, ↓fR_f3, ↓fR_f4, ↓fR_f5, ↓fI_f6, ↓fR_f7, ↓fR_t0, ↓fI_t1, ↓fR_s0, ↓fR_s1, ↓fR_s2, ↓fR_s3, ↓fR_s4, ↓fR_s5, ↓fO_s5, ↓fI_s6, ↓fI_s7, ↓fI_s8, ↓fI_s9, ↓fR_n0, ↓fI_n1, ↓fI_n2, ↓fR_n3, ↓fR_n4, ↓fI_n5, ↓fR_n6, ↓fR_n7, ↓fR_n8, ↓fI_n9, ↓fR_n10, ↓fR_n11, ↓fI_n12,
    CHu_F, CHu_T, CHu_T1, CHu_S5, CHu_S6, CHu_S7, CHu_S8, CHu_S9, CHu_a1, CHu_a2, CHu_a3, CHu_a4, CHu_a5, CHu_N1, CHu_N2, CHu_N5, CHu_N9, CHu_N12, CHu_b1, CHu_b2, CHu_b3, CHu_b4, CHu_b5, CHu_b6, CHu_b7, CHu_b8, ffs_len, tfs_len, sfs_len, nfs_len, sl_i, vuS, vuN, vuV, fS_s, Nat.reduceLT, Nat.reduceEqDiff, Nat.le_refl,
    ↓fI_h0, ↓fI_h1, ↓fR_h2, ↓fR_h3, ↓fI_h4, ↓fR_h5, ↓fI_h6, ↓fR_h7, ↓fR_h8, ↓fI_h9, ↓fI_h10, ↓fI_p0, ↓fI_p1, ↓fR_p2, ↓fO_p3, hfs_s0, hfs_s1, hfs_s4, hfs_s6, hfs_s8, hfs_s9, hfs_s10, hfs_len, pfs_len, pfs_s3, Nat.reduceLT, Nat.reduceEqDiff, nI_add, nI_mulN, lit32, nI_clamp, vp_in_nI, nI_ltI, nI_eq, nI_leI, Nat.reduceMul, Nat.zero_add, Nat.add_zero, B_Person_taken, M_Person_taken]
  exact hK
theorem t_tk1 {kd : Nat} (hkd : kd = 1 ∨ kd = 4) (hd : 1 ≤ d) (hk : k < 4) (hp : p < 6) (hdy : dynA X a) (ha : dh a = some (ob (4 + kd) (pfs a (kd, (p, v)) o))) (hK : K (some (.int ((st k).1 (5 + p)))) (CH X dh st nt t im)) : CALL X M_Learning_taken d [.ref a, .ref (SB X k)] (CH X dh st nt t im) K := by
  have qa := onO_CHd (st := st) (nt := nt) (t := t) (im := im) hdy ha
  have e : (4 + kd = 5 ∨ 4 + kd = 8) = True := eq_true (by omega)
  obtain ⟨d, rfl⟩ : ∃ e, d = e + 1 := ⟨d - 1, by omega⟩
  refine call_of (by decide +kernel) (by decide) (F_Learning_taken X d) (Nat.le_of_ble_eq_true rfl) ?_
  intro g
  simp (disch := first | omega | rfl | (simp (disch := omega) only [vuS, vuN])) only [↓sSeq, ↓sI_f, ↓sL_f, ↓sR_f, ↓sInc_f, fE_c, eset_0, eset_1i, eset_1r, eset_1n, eset_1l, eset_ss, ↓sIf, ↓sBrk, ↓sCnt, ↓sRetI, ↓sRetL, ↓sRetR, ↓sRet, ↓sRetZ, ↓sSkip, ↓sSw, ↓sK, ↓sPop, ↓sFor_t, ↓sast, ↓sastC, ↓szst, ↓spst, ↓sput, ↓sputZ, ↓sputR, ↓sputN, ↓sputC, ↓sCopy,
    ↓xi, ↓xl, ↓xr, ↓xc, ↓xcl, ↓xadd, ↓xsub, ↓xmul, ↓xdiv, ↓xrem, ↓xand, ↓xor, ↓xxor, ↓xshl, ↓xshr, ↓xneg, ↓xaddl, ↓xsubl, ↓xmull, ↓xdivl, ↓xreml, ↓xnegl, ↓xi2l, ↓xi2c, ↓xofC, ↓xite, ↓xitel, ↓xiter, ↓xmax, ↓xmin, ↓xabs, ↓xabsl,
    ↓xg, ↓xgR, ↓xgO, ↓oR, ↓xald, ↓xzld, ↓xpld, ↓xlen, ↓xstr, ↓xinst, ↓cNot, ↓cAnd, ↓cOr, ↓cEq, ↓cLt, ↓cGt, ↓cEq0, ↓cLt0, ↓cGt0, ↓cEqL, ↓cLtL, ↓cGtL, ↓cEqO,
    ↓kI, ↓kL, ↓kR, ↓kV, ↓kS, ↓kD_e, ↓kP, ↓kT, ↓CALL_t, ↓vI, ↓vL, ↓vR, ↓aN, ↓aC, aenv_i, aenv_l, aenv_r, aenv_0, List.replicate, Nat.reduceSub, Nat.reduceAdd, eset2, kill, List.set_cons_zero, List.set_cons_succ, List.set_nil, List.getElem?_cons_zero, List.getElem?_cons_succ, List.getElem?_nil, List.mem_cons, List.not_mem_nil, or_false, or_true, true_and, and_true, true_or, false_or, false_and, and_false, not_false_eq_true, not_true_eq_false, forall_const, false_imp_iff, imp_false, true_imp_iff, if_true, if_false, implies_true, reduceIte, reduceCtorEq,
    ↓onO_CF, ↓onO_CT, ↓onI_CT1, ↓onO_CN, ↓onI_CN1, ↓onI_CN2, ↓onI_CN3, ↓onI_CN4, ↓onI_CN5, ↓onI_CN6, ↓onI_CN7, ↓onI_CN8, ↓onO_CS, ↓onI_CS1, ↓onP_CS2, ↓onI_CS3, ↓onI_CS4, ↓onI_CS5, ↓fR_f0, ↓fR_f1, ↓fR_f2, ↓fR_f3, ↓fR_f4, ↓fR_f5, ↓fI_f6, ↓fR_f7, ↓fR_t0, ↓fI_t1, ↓fR_s0, ↓fR_s1, ↓fR_s2, ↓fR_s3, ↓fR_s4, ↓fR_s5, ↓fO_s5, ↓fI_s6, ↓fI_s7, ↓fI_s8, ↓fI_s9, ↓fR_n0, ↓fI_n1, ↓fI_n2, ↓fR_n3, ↓fR_n4, ↓fI_n5, ↓fR_n6, ↓fR_n7, ↓fR_n8, ↓fI_n9, ↓fR_n10, ↓fR_n11, ↓fI_n12,
    CHu_F, CHu_T, CHu_T1, CHu_S5, CHu_S6, CHu_S7, CHu_S8, CHu_S9, CHu_a1, CHu_a2, CHu_a3, CHu_a4, CHu_a5, CHu_N1, CHu_N2, CHu_N5, CHu_N9, CHu_N12, CHu_b1, CHu_b2, CHu_b3, CHu_b4, CHu_b5, CHu_b6, CHu_b7, CHu_b8, ffs_len, tfs_len, sfs_len, nfs_len, sl_i, vuS, vuN, vuV, fS_s, Nat.reduceLT, Nat.reduceEqDiff, Nat.le_refl,
    ↓fI_h0, ↓fI_h1, ↓fR_h2, ↓fR_h3, ↓fI_h4, ↓fR_h5, ↓fI_h6, ↓fR_h7, ↓fR_h8, ↓fI_h9, ↓fI_h10, ↓fI_p0, ↓fI_p1, ↓fR_p2, ↓fO_p3, hfs_s0, hfs_s1, hfs_s4, hfs_s6, hfs_s8, hfs_s9, hfs_s10, hfs_len, pfs_len, pfs_s3, Nat.reduceLT, Nat.reduceEqDiff, nI_add, nI_mulN, lit32, nI_clamp, vp_in_nI, nI_ltI, nI_eq, nI_leI, Nat.reduceMul, Nat.zero_add, Nat.add_zero, B_Learning_taken, M_Learning_taken, ↓qa, e]
  exact hK
theorem t_tk2 {kd : Nat} (hkd : kd = 2 ∨ kd = 5) (hd : 1 ≤ d) (hk : k < 4) (hp : p < 6) (hdy : dynA X a) (ha : dh a = some (ob (4 + kd) (pfs a (kd, (p, v)) o))) (hK : K (some (.int ((st k).1 (5 + p) + v))) (CH X dh st nt t im)) : CALL X M_Off_taken d [.ref a, .ref (SB X k)] (CH X dh st nt t im) K := by
  have qa := onO_CHd (st := st) (nt := nt) (t := t) (im := im) hdy ha
  have e : (4 + kd = 6 ∨ 4 + kd = 9) = True := eq_true (by omega)
  obtain ⟨d, rfl⟩ : ∃ e, d = e + 1 := ⟨d - 1, by omega⟩
  refine call_of (by decide +kernel) (by decide) (F_Off_taken X d) (Nat.le_of_ble_eq_true rfl) ?_
  intro g
  simp (disch := first | omega | rfl | (simp (disch := omega) only [vuS, vuN])) only [↓sSeq, ↓sI_f, ↓sL_f, ↓sR_f, ↓sInc_f, fE_c, eset_0, eset_1i, eset_1r, eset_1n, eset_1l, eset_ss, ↓sIf, ↓sBrk, ↓sCnt, ↓sRetI, ↓sRetL, ↓sRetR, ↓sRet, ↓sRetZ, ↓sSkip, ↓sSw, ↓sK, ↓sPop, ↓sFor_t, ↓sast, ↓sastC, ↓szst, ↓spst, ↓sput, ↓sputZ, ↓sputR, ↓sputN, ↓sputC, ↓sCopy,
    ↓xi, ↓xl, ↓xr, ↓xc, ↓xcl, ↓xadd, ↓xsub, ↓xmul, ↓xdiv, ↓xrem, ↓xand, ↓xor, ↓xxor, ↓xshl, ↓xshr, ↓xneg, ↓xaddl, ↓xsubl, ↓xmull, ↓xdivl, ↓xreml, ↓xnegl, ↓xi2l, ↓xi2c, ↓xofC, ↓xite, ↓xitel, ↓xiter, ↓xmax, ↓xmin, ↓xabs, ↓xabsl,
    ↓xg, ↓xgR, ↓xgO, ↓oR, ↓xald, ↓xzld, ↓xpld, ↓xlen, ↓xstr, ↓xinst, ↓cNot, ↓cAnd, ↓cOr, ↓cEq, ↓cLt, ↓cGt, ↓cEq0, ↓cLt0, ↓cGt0, ↓cEqL, ↓cLtL, ↓cGtL, ↓cEqO,
    ↓kI, ↓kL, ↓kR, ↓kV, ↓kS, ↓kD_e, ↓kP, ↓kT, ↓CALL_t, ↓vI, ↓vL, ↓vR, ↓aN, ↓aC, aenv_i, aenv_l, aenv_r, aenv_0, List.replicate, Nat.reduceSub, Nat.reduceAdd, eset2, kill, List.set_cons_zero, List.set_cons_succ, List.set_nil, List.getElem?_cons_zero, List.getElem?_cons_succ, List.getElem?_nil, List.mem_cons, List.not_mem_nil, or_false, or_true, true_and, and_true, true_or, false_or, false_and, and_false, not_false_eq_true, not_true_eq_false, forall_const, false_imp_iff, imp_false, true_imp_iff, if_true, if_false, implies_true, reduceIte, reduceCtorEq,
    ↓onO_CF, ↓onO_CT, ↓onI_CT1, ↓onO_CN, ↓onI_CN1, ↓onI_CN2, ↓onI_CN3, ↓onI_CN4, ↓onI_CN5, ↓onI_CN6, ↓onI_CN7, ↓onI_CN8, ↓onO_CS, ↓onI_CS1, ↓onP_CS2, ↓onI_CS3, ↓onI_CS4, ↓onI_CS5, ↓fR_f0, ↓fR_f1, ↓fR_f2, ↓fR_f3, ↓fR_f4, ↓fR_f5, ↓fI_f6, ↓fR_f7, ↓fR_t0, ↓fI_t1, ↓fR_s0, ↓fR_s1, ↓fR_s2, ↓fR_s3, ↓fR_s4, ↓fR_s5, ↓fO_s5, ↓fI_s6, ↓fI_s7, ↓fI_s8, ↓fI_s9, ↓fR_n0, ↓fI_n1, ↓fI_n2, ↓fR_n3, ↓fR_n4, ↓fI_n5, ↓fR_n6, ↓fR_n7, ↓fR_n8, ↓fI_n9, ↓fR_n10, ↓fR_n11, ↓fI_n12,
    CHu_F, CHu_T, CHu_T1, CHu_S5, CHu_S6, CHu_S7, CHu_S8, CHu_S9, CHu_a1, CHu_a2, CHu_a3, CHu_a4, CHu_a5, CHu_N1, CHu_N2, CHu_N5, CHu_N9, CHu_N12, CHu_b1, CHu_b2, CHu_b3, CHu_b4, CHu_b5, CHu_b6, CHu_b7, CHu_b8, ffs_len, tfs_len, sfs_len, nfs_len, sl_i, vuS, vuN, vuV, fS_s, Nat.reduceLT, Nat.reduceEqDiff, Nat.le_refl,
    ↓fI_h0, ↓fI_h1, ↓fR_h2, ↓fR_h3, ↓fI_h4, ↓fR_h5, ↓fI_h6, ↓fR_h7, ↓fR_h8, ↓fI_h9, ↓fI_h10, ↓fI_p0, ↓fI_p1, ↓fR_p2, ↓fO_p3, hfs_s0, hfs_s1, hfs_s4, hfs_s6, hfs_s8, hfs_s9, hfs_s10, hfs_len, pfs_len, pfs_s3, Nat.reduceLT, Nat.reduceEqDiff, nI_add, nI_mulN, lit32, nI_clamp, vp_in_nI, nI_ltI, nI_eq, nI_leI, Nat.reduceMul, Nat.zero_add, Nat.add_zero, B_Off_taken, M_Off_taken, ↓qa, e]
  exact hK
theorem t_tk4 (hd : 2 ≤ d) (hk : k < 4) (hp : p < 6) (hdy : dynA X a) (ha : dh a = some (ob 8 (pfs a (4, (p, v)) o))) (hK : K (some (.int (if (st k).1 3 < 3 then (st k).1 (5 + p) + (st k).1 4 / 2 else (st k).1 (5 + p)))) (CH X dh st nt t im)) : CALL X M_Wise_taken d [.ref a, .ref (SB X k)] (CH X dh st nt t im) K := by
  have qa := onO_CHd (st := st) (nt := nt) (t := t) (im := im) hdy ha
  obtain ⟨d, rfl⟩ : ∃ e, d = e + 1 := ⟨d - 1, by omega⟩
  refine call_of (by decide +kernel) (by decide) (F_Wise_taken X d) (Nat.le_of_ble_eq_true rfl) ?_
  intro g
  simp (disch := first | omega | rfl | (simp (disch := omega) only [vuS, vuN])) only [↓sSeq, ↓sI_f, ↓sL_f, ↓sR_f, ↓sInc_f, fE_c, eset_0, eset_1i, eset_1r, eset_1n, eset_1l, eset_ss, ↓sIf, ↓sBrk, ↓sCnt, ↓sRetI, ↓sRetL, ↓sRetR, ↓sRet, ↓sRetZ, ↓sSkip, ↓sSw, ↓sK, ↓sPop, ↓sFor_t, ↓sast, ↓sastC, ↓szst, ↓spst, ↓sput, ↓sputZ, ↓sputR, ↓sputN, ↓sputC, ↓sCopy,
    ↓xi, ↓xl, ↓xr, ↓xc, ↓xcl, ↓xadd, ↓xsub, ↓xmul, ↓xdiv, ↓xrem, ↓xand, ↓xor, ↓xxor, ↓xshl, ↓xshr, ↓xneg, ↓xaddl, ↓xsubl, ↓xmull, ↓xdivl, ↓xreml, ↓xnegl, ↓xi2l, ↓xi2c, ↓xofC, ↓xite, ↓xitel, ↓xiter, ↓xmax, ↓xmin, ↓xabs, ↓xabsl,
    ↓xg, ↓xgR, ↓xgO, ↓oR, ↓xald, ↓xzld, ↓xpld, ↓xlen, ↓xstr, ↓xinst, ↓cNot, ↓cAnd, ↓cOr, ↓cEq, ↓cLt, ↓cGt, ↓cEq0, ↓cLt0, ↓cGt0, ↓cEqL, ↓cLtL, ↓cGtL, ↓cEqO,
    ↓kI, ↓kL, ↓kR, ↓kV, ↓kS, ↓kD_e, ↓kP, ↓kT, ↓CALL_t, ↓vI, ↓vL, ↓vR, ↓aN, ↓aC, aenv_i, aenv_l, aenv_r, aenv_0, List.replicate, Nat.reduceSub, Nat.reduceAdd, eset2, kill, List.set_cons_zero, List.set_cons_succ, List.set_nil, List.getElem?_cons_zero, List.getElem?_cons_succ, List.getElem?_nil, List.mem_cons, List.not_mem_nil, or_false, or_true, true_and, and_true, true_or, false_or, false_and, and_false, not_false_eq_true, not_true_eq_false, forall_const, false_imp_iff, imp_false, true_imp_iff, if_true, if_false, implies_true, reduceIte, reduceCtorEq,
    ↓onO_CF, ↓onO_CT, ↓onI_CT1, ↓onO_CN, ↓onI_CN1, ↓onI_CN2, ↓onI_CN3, ↓onI_CN4, ↓onI_CN5, ↓onI_CN6, ↓onI_CN7, ↓onI_CN8, ↓onO_CS, ↓onI_CS1, ↓onP_CS2, ↓onI_CS3, ↓onI_CS4, ↓onI_CS5, ↓fR_f0, ↓fR_f1, ↓fR_f2, ↓fR_f3, ↓fR_f4, ↓fR_f5, ↓fI_f6, ↓fR_f7, ↓fR_t0, ↓fI_t1, ↓fR_s0, ↓fR_s1, ↓fR_s2, ↓fR_s3, ↓fR_s4, ↓fR_s5, ↓fO_s5, ↓fI_s6, ↓fI_s7, ↓fI_s8, ↓fI_s9, ↓fR_n0, ↓fI_n1, ↓fI_n2, ↓fR_n3, ↓fR_n4, ↓fI_n5, ↓fR_n6, ↓fR_n7, ↓fR_n8, ↓fI_n9, ↓fR_n10, ↓fR_n11, ↓fI_n12,
    CHu_F, CHu_T, CHu_T1, CHu_S5, CHu_S6, CHu_S7, CHu_S8, CHu_S9, CHu_a1, CHu_a2, CHu_a3, CHu_a4, CHu_a5, CHu_N1, CHu_N2, CHu_N5, CHu_N9, CHu_N12, CHu_b1, CHu_b2, CHu_b3, CHu_b4, CHu_b5, CHu_b6, CHu_b7, CHu_b8, ffs_len, tfs_len, sfs_len, nfs_len, sl_i, vuS, vuN, vuV, fS_s, Nat.reduceLT, Nat.reduceEqDiff, Nat.le_refl,
    ↓fI_h0, ↓fI_h1, ↓fR_h2, ↓fR_h3, ↓fI_h4, ↓fR_h5, ↓fI_h6, ↓fR_h7, ↓fR_h8, ↓fI_h9, ↓fI_h10, ↓fI_p0, ↓fI_p1, ↓fR_p2, ↓fO_p3, hfs_s0, hfs_s1, hfs_s4, hfs_s6, hfs_s8, hfs_s9, hfs_s10, hfs_len, pfs_len, pfs_s3, Nat.reduceLT, Nat.reduceEqDiff, nI_add, nI_mulN, lit32, nI_clamp, vp_in_nI, nI_ltI, nI_eq, nI_leI, Nat.reduceMul, Nat.zero_add, Nat.add_zero, B_Wise_taken, M_Wise_taken, ↓qa]
  refine t_tk1 (kd := 4) (Or.inr rfl) (by omega) hk hp hdy ha ?_
  simp (disch := first | omega | rfl | (simp (disch := omega) only [vuS, vuN])) only [↓sSeq, ↓sI_f, ↓sL_f, ↓sR_f, ↓sInc_f, fE_c, eset_0, eset_1i, eset_1r, eset_1n, eset_1l, eset_ss, ↓sIf, ↓sBrk, ↓sCnt, ↓sRetI, ↓sRetL, ↓sRetR, ↓sRet, ↓sRetZ, ↓sSkip, ↓sSw, ↓sK, ↓sPop, ↓sFor_t, ↓sast, ↓sastC, ↓szst, ↓spst, ↓sput, ↓sputZ, ↓sputR, ↓sputN, ↓sputC, ↓sCopy,
    ↓xi, ↓xl, ↓xr, ↓xc, ↓xcl, ↓xadd, ↓xsub, ↓xmul, ↓xdiv, ↓xrem, ↓xand, ↓xor, ↓xxor, ↓xshl, ↓xshr, ↓xneg, ↓xaddl, ↓xsubl, ↓xmull, ↓xdivl, ↓xreml, ↓xnegl, ↓xi2l, ↓xi2c, ↓xofC, ↓xite, ↓xitel, ↓xiter, ↓xmax, ↓xmin, ↓xabs, ↓xabsl,
    ↓xg, ↓xgR, ↓xgO, ↓oR, ↓xald, ↓xzld, ↓xpld, ↓xlen, ↓xstr, ↓xinst, ↓cNot, ↓cAnd, ↓cOr, ↓cEq, ↓cLt, ↓cGt, ↓cEq0, ↓cLt0, ↓cGt0, ↓cEqL, ↓cLtL, ↓cGtL, ↓cEqO,
    ↓kI, ↓kL, ↓kR, ↓kV, ↓kS, ↓kD_e, ↓kP, ↓kT, ↓CALL_t, ↓vI, ↓vL, ↓vR, ↓aN, ↓aC, aenv_i, aenv_l, aenv_r, aenv_0, List.replicate, Nat.reduceSub, Nat.reduceAdd, eset2, kill, List.set_cons_zero, List.set_cons_succ, List.set_nil, List.getElem?_cons_zero, List.getElem?_cons_succ, List.getElem?_nil, List.mem_cons, List.not_mem_nil, or_false, or_true, true_and, and_true, true_or, false_or, false_and, and_false, not_false_eq_true, not_true_eq_false, forall_const, false_imp_iff, imp_false, true_imp_iff, if_true, if_false, implies_true, reduceIte, reduceCtorEq,
    ↓onO_CF, ↓onO_CT, ↓onI_CT1, ↓onO_CN, ↓onI_CN1, ↓onI_CN2, ↓onI_CN3, ↓onI_CN4, ↓onI_CN5, ↓onI_CN6, ↓onI_CN7, ↓onI_CN8, ↓onO_CS, ↓onI_CS1, ↓onP_CS2, ↓onI_CS3, ↓onI_CS4, ↓onI_CS5, ↓fR_f0, ↓fR_f1, ↓fR_f2, ↓fR_f3, ↓fR_f4, ↓fR_f5, ↓fI_f6, ↓fR_f7, ↓fR_t0, ↓fI_t1, ↓fR_s0, ↓fR_s1, ↓fR_s2, ↓fR_s3, ↓fR_s4, ↓fR_s5, ↓fO_s5, ↓fI_s6, ↓fI_s7, ↓fI_s8, ↓fI_s9, ↓fR_n0, ↓fI_n1, ↓fI_n2, ↓fR_n3, ↓fR_n4, ↓fI_n5, ↓fR_n6, ↓fR_n7, ↓fR_n8, ↓fI_n9, ↓fR_n10, ↓fR_n11, ↓fI_n12,
    CHu_F, CHu_T, CHu_T1, CHu_S5, CHu_S6, CHu_S7, CHu_S8, CHu_S9, CHu_a1, CHu_a2, CHu_a3, CHu_a4, CHu_a5, CHu_N1, CHu_N2, CHu_N5, CHu_N9, CHu_N12, CHu_b1, CHu_b2, CHu_b3, CHu_b4, CHu_b5, CHu_b6, CHu_b7, CHu_b8, ffs_len, tfs_len, sfs_len, nfs_len, sl_i, vuS, vuN, vuV, fS_s, Nat.reduceLT, Nat.reduceEqDiff, Nat.le_refl,
    ↓fI_h0, ↓fI_h1, ↓fR_h2, ↓fR_h3, ↓fI_h4, ↓fR_h5, ↓fI_h6, ↓fR_h7, ↓fR_h8, ↓fI_h9, ↓fI_h10, ↓fI_p0, ↓fI_p1, ↓fR_p2, ↓fO_p3, hfs_s0, hfs_s1, hfs_s4, hfs_s6, hfs_s8, hfs_s9, hfs_s10, hfs_len, pfs_len, pfs_s3, Nat.reduceLT, Nat.reduceEqDiff, nI_add, nI_mulN, lit32, nI_clamp, vp_in_nI, nI_ltI, nI_eq, nI_leI, Nat.reduceMul, Nat.zero_add, Nat.add_zero]
  refine ⟨fun c => ?_, fun c => ?_⟩
  · rw [if_pos (show (st k).1 3 < 3 from c)] at hK; exact hK
  · rw [if_neg (show ¬ (st k).1 3 < 3 from c)] at hK; exact hK
theorem t_tk5 (hd : 2 ≤ d) (hk : k < 4) (hp : p < 6) (hdy : dynA X a) (ha : dh a = some (ob 9 (pfs a (5, (p, v)) o))) (hK : K (some (.int ((st k).1 (5 + p) + v - jabs ((st k).1 0 - (st k).1 1) / 2))) (CH X dh st nt t im)) : CALL X M_Chance_taken d [.ref a, .ref (SB X k)] (CH X dh st nt t im) K := by
  have qa := onO_CHd (st := st) (nt := nt) (t := t) (im := im) hdy ha
  obtain ⟨d, rfl⟩ : ∃ e, d = e + 1 := ⟨d - 1, by omega⟩
  refine call_of (by decide +kernel) (by decide) (F_Chance_taken X d) (Nat.le_of_ble_eq_true rfl) ?_
  intro g
  simp (disch := first | omega | rfl | (simp (disch := omega) only [vuS, vuN])) only [↓sSeq, ↓sI_f, ↓sL_f, ↓sR_f, ↓sInc_f, fE_c, eset_0, eset_1i, eset_1r, eset_1n, eset_1l, eset_ss, ↓sIf, ↓sBrk, ↓sCnt, ↓sRetI, ↓sRetL, ↓sRetR, ↓sRet, ↓sRetZ, ↓sSkip, ↓sSw, ↓sK, ↓sPop, ↓sFor_t, ↓sast, ↓sastC, ↓szst, ↓spst, ↓sput, ↓sputZ, ↓sputR, ↓sputN, ↓sputC, ↓sCopy,
    ↓xi, ↓xl, ↓xr, ↓xc, ↓xcl, ↓xadd, ↓xsub, ↓xmul, ↓xdiv, ↓xrem, ↓xand, ↓xor, ↓xxor, ↓xshl, ↓xshr, ↓xneg, ↓xaddl, ↓xsubl, ↓xmull, ↓xdivl, ↓xreml, ↓xnegl, ↓xi2l, ↓xi2c, ↓xofC, ↓xite, ↓xitel, ↓xiter, ↓xmax, ↓xmin, ↓xabs, ↓xabsl,
    ↓xg, ↓xgR, ↓xgO, ↓oR, ↓xald, ↓xzld, ↓xpld, ↓xlen, ↓xstr, ↓xinst, ↓cNot, ↓cAnd, ↓cOr, ↓cEq, ↓cLt, ↓cGt, ↓cEq0, ↓cLt0, ↓cGt0, ↓cEqL, ↓cLtL, ↓cGtL, ↓cEqO,
    ↓kI, ↓kL, ↓kR, ↓kV, ↓kS, ↓kD_e, ↓kP, ↓kT, ↓CALL_t, ↓vI, ↓vL, ↓vR, ↓aN, ↓aC, aenv_i, aenv_l, aenv_r, aenv_0, List.replicate, Nat.reduceSub, Nat.reduceAdd, eset2, kill, List.set_cons_zero, List.set_cons_succ, List.set_nil, List.getElem?_cons_zero, List.getElem?_cons_succ, List.getElem?_nil, List.mem_cons, List.not_mem_nil, or_false, or_true, true_and, and_true, true_or, false_or, false_and, and_false, not_false_eq_true, not_true_eq_false, forall_const, false_imp_iff, imp_false, true_imp_iff, if_true, if_false, implies_true, reduceIte, reduceCtorEq,
    ↓onO_CF, ↓onO_CT, ↓onI_CT1, ↓onO_CN, ↓onI_CN1, ↓onI_CN2, ↓onI_CN3, ↓onI_CN4, ↓onI_CN5, ↓onI_CN6, ↓onI_CN7, ↓onI_CN8, ↓onO_CS, ↓onI_CS1, ↓onP_CS2, ↓onI_CS3, ↓onI_CS4, ↓onI_CS5, ↓fR_f0, ↓fR_f1, ↓fR_f2, ↓fR_f3, ↓fR_f4, ↓fR_f5, ↓fI_f6, ↓fR_f7, ↓fR_t0, ↓fI_t1, ↓fR_s0, ↓fR_s1, ↓fR_s2, ↓fR_s3, ↓fR_s4, ↓fR_s5, ↓fO_s5, ↓fI_s6, ↓fI_s7, ↓fI_s8, ↓fI_s9, ↓fR_n0, ↓fI_n1, ↓fI_n2, ↓fR_n3, ↓fR_n4, ↓fI_n5, ↓fR_n6, ↓fR_n7, ↓fR_n8, ↓fI_n9, ↓fR_n10, ↓fR_n11, ↓fI_n12,
    CHu_F, CHu_T, CHu_T1, CHu_S5, CHu_S6, CHu_S7, CHu_S8, CHu_S9, CHu_a1, CHu_a2, CHu_a3, CHu_a4, CHu_a5, CHu_N1, CHu_N2, CHu_N5, CHu_N9, CHu_N12, CHu_b1, CHu_b2, CHu_b3, CHu_b4, CHu_b5, CHu_b6, CHu_b7, CHu_b8, ffs_len, tfs_len, sfs_len, nfs_len, sl_i, vuS, vuN, vuV, fS_s, Nat.reduceLT, Nat.reduceEqDiff, Nat.le_refl,
    ↓fI_h0, ↓fI_h1, ↓fR_h2, ↓fR_h3, ↓fI_h4, ↓fR_h5, ↓fI_h6, ↓fR_h7, ↓fR_h8, ↓fI_h9, ↓fI_h10, ↓fI_p0, ↓fI_p1, ↓fR_p2, ↓fO_p3, hfs_s0, hfs_s1, hfs_s4, hfs_s6, hfs_s8, hfs_s9, hfs_s10, hfs_len, pfs_len, pfs_s3, Nat.reduceLT, Nat.reduceEqDiff, nI_add, nI_mulN, lit32, nI_clamp, vp_in_nI, nI_ltI, nI_eq, nI_leI, Nat.reduceMul, Nat.zero_add, Nat.add_zero, B_Chance_taken, M_Chance_taken, ↓qa]
  refine t_tk2 (kd := 5) (Or.inr rfl) (by omega) hk hp hdy ha ?_
  simp (disch := first | omega | rfl | (simp (disch := omega) only [vuS, vuN])) only [↓sSeq, ↓sI_f, ↓sL_f, ↓sR_f, ↓sInc_f, fE_c, eset_0, eset_1i, eset_1r, eset_1n, eset_1l, eset_ss, ↓sIf, ↓sBrk, ↓sCnt, ↓sRetI, ↓sRetL, ↓sRetR, ↓sRet, ↓sRetZ, ↓sSkip, ↓sSw, ↓sK, ↓sPop, ↓sFor_t, ↓sast, ↓sastC, ↓szst, ↓spst, ↓sput, ↓sputZ, ↓sputR, ↓sputN, ↓sputC, ↓sCopy,
    ↓xi, ↓xl, ↓xr, ↓xc, ↓xcl, ↓xadd, ↓xsub, ↓xmul, ↓xdiv, ↓xrem, ↓xand, ↓xor, ↓xxor, ↓xshl, ↓xshr, ↓xneg, ↓xaddl, ↓xsubl, ↓xmull, ↓xdivl, ↓xreml, ↓xnegl, ↓xi2l, ↓xi2c, ↓xofC, ↓xite, ↓xitel, ↓xiter, ↓xmax, ↓xmin, ↓xabs, ↓xabsl,
    ↓xg, ↓xgR, ↓xgO, ↓oR, ↓xald, ↓xzld, ↓xpld, ↓xlen, ↓xstr, ↓xinst, ↓cNot, ↓cAnd, ↓cOr, ↓cEq, ↓cLt, ↓cGt, ↓cEq0, ↓cLt0, ↓cGt0, ↓cEqL, ↓cLtL, ↓cGtL, ↓cEqO,
    ↓kI, ↓kL, ↓kR, ↓kV, ↓kS, ↓kD_e, ↓kP, ↓kT, ↓CALL_t, ↓vI, ↓vL, ↓vR, ↓aN, ↓aC, aenv_i, aenv_l, aenv_r, aenv_0, List.replicate, Nat.reduceSub, Nat.reduceAdd, eset2, kill, List.set_cons_zero, List.set_cons_succ, List.set_nil, List.getElem?_cons_zero, List.getElem?_cons_succ, List.getElem?_nil, List.mem_cons, List.not_mem_nil, or_false, or_true, true_and, and_true, true_or, false_or, false_and, and_false, not_false_eq_true, not_true_eq_false, forall_const, false_imp_iff, imp_false, true_imp_iff, if_true, if_false, implies_true, reduceIte, reduceCtorEq,
    ↓onO_CF, ↓onO_CT, ↓onI_CT1, ↓onO_CN, ↓onI_CN1, ↓onI_CN2, ↓onI_CN3, ↓onI_CN4, ↓onI_CN5, ↓onI_CN6, ↓onI_CN7, ↓onI_CN8, ↓onO_CS, ↓onI_CS1, ↓onP_CS2, ↓onI_CS3, ↓onI_CS4, ↓onI_CS5, ↓fR_f0, ↓fR_f1, ↓fR_f2, ↓fR_f3, ↓fR_f4, ↓fR_f5, ↓fI_f6, ↓fR_f7, ↓fR_t0, ↓fI_t1, ↓fR_s0, ↓fR_s1, ↓fR_s2, ↓fR_s3, ↓fR_s4, ↓fR_s5, ↓fO_s5, ↓fI_s6, ↓fI_s7, ↓fI_s8, ↓fI_s9, ↓fR_n0, ↓fI_n1, ↓fI_n2, ↓fR_n3, ↓fR_n4, ↓fI_n5, ↓fR_n6, ↓fR_n7, ↓fR_n8, ↓fI_n9, ↓fR_n10, ↓fR_n11, ↓fI_n12,
    CHu_F, CHu_T, CHu_T1, CHu_S5, CHu_S6, CHu_S7, CHu_S8, CHu_S9, CHu_a1, CHu_a2, CHu_a3, CHu_a4, CHu_a5, CHu_N1, CHu_N2, CHu_N5, CHu_N9, CHu_N12, CHu_b1, CHu_b2, CHu_b3, CHu_b4, CHu_b5, CHu_b6, CHu_b7, CHu_b8, ffs_len, tfs_len, sfs_len, nfs_len, sl_i, vuS, vuN, vuV, fS_s, Nat.reduceLT, Nat.reduceEqDiff, Nat.le_refl,
    ↓fI_h0, ↓fI_h1, ↓fR_h2, ↓fR_h3, ↓fI_h4, ↓fR_h5, ↓fI_h6, ↓fR_h7, ↓fR_h8, ↓fI_h9, ↓fI_h10, ↓fI_p0, ↓fI_p1, ↓fR_p2, ↓fO_p3, hfs_s0, hfs_s1, hfs_s4, hfs_s6, hfs_s8, hfs_s9, hfs_s10, hfs_len, pfs_len, pfs_s3, Nat.reduceLT, Nat.reduceEqDiff, nI_add, nI_mulN, lit32, nI_clamp, vp_in_nI, nI_ltI, nI_eq, nI_leI, Nat.reduceMul, Nat.zero_add, Nat.add_zero]
  exact hK
theorem t_tk6 (hd : 1 ≤ d) (hk : k < 4) (hp : p < 6) (hdy : dynA X a) (ha : dh a = some (ob 10 (pfs a (6, (p, v)) o))) (hD : D < 2 ^ 31) (hDS : (st k).1 2 = nI D) (hK : K (some (.int ((st k).1 (36 + (p * 4 + D % 4))))) (CH X dh st nt t im)) : CALL X M_Told_taken d [.ref a, .ref (SB X k)] (CH X dh st nt t im) K := by
  have qa := onO_CHd (st := st) (nt := nt) (t := t) (im := im) hdy ha
  have h4 : D % 4 < 4 := Nat.mod_lt _ (by omega)
  obtain ⟨d, rfl⟩ : ∃ e, d = e + 1 := ⟨d - 1, by omega⟩
  refine call_of (by decide +kernel) (by decide) (F_Told_taken X d) (Nat.le_of_ble_eq_true rfl) ?_
  intro g
  simp (disch := first | omega | rfl | (simp (disch := omega) only [vuS, vuN])) only [↓sSeq, ↓sI_f, ↓sL_f, ↓sR_f, ↓sInc_f, fE_c, eset_0, eset_1i, eset_1r, eset_1n, eset_1l, eset_ss, ↓sIf, ↓sBrk, ↓sCnt, ↓sRetI, ↓sRetL, ↓sRetR, ↓sRet, ↓sRetZ, ↓sSkip, ↓sSw, ↓sK, ↓sPop, ↓sFor_t, ↓sast, ↓sastC, ↓szst, ↓spst, ↓sput, ↓sputZ, ↓sputR, ↓sputN, ↓sputC, ↓sCopy,
    ↓xi, ↓xl, ↓xr, ↓xc, ↓xcl, ↓xadd, ↓xsub, ↓xmul, ↓xdiv, ↓xrem, ↓xand, ↓xor, ↓xxor, ↓xshl, ↓xshr, ↓xneg, ↓xaddl, ↓xsubl, ↓xmull, ↓xdivl, ↓xreml, ↓xnegl, ↓xi2l, ↓xi2c, ↓xofC, ↓xite, ↓xitel, ↓xiter, ↓xmax, ↓xmin, ↓xabs, ↓xabsl,
    ↓xg, ↓xgR, ↓xgO, ↓oR, ↓xald, ↓xzld, ↓xpld, ↓xlen, ↓xstr, ↓xinst, ↓cNot, ↓cAnd, ↓cOr, ↓cEq, ↓cLt, ↓cGt, ↓cEq0, ↓cLt0, ↓cGt0, ↓cEqL, ↓cLtL, ↓cGtL, ↓cEqO,
    ↓kI, ↓kL, ↓kR, ↓kV, ↓kS, ↓kD_e, ↓kP, ↓kT, ↓CALL_t, ↓vI, ↓vL, ↓vR, ↓aN, ↓aC, aenv_i, aenv_l, aenv_r, aenv_0, List.replicate, Nat.reduceSub, Nat.reduceAdd, eset2, kill, List.set_cons_zero, List.set_cons_succ, List.set_nil, List.getElem?_cons_zero, List.getElem?_cons_succ, List.getElem?_nil, List.mem_cons, List.not_mem_nil, or_false, or_true, true_and, and_true, true_or, false_or, false_and, and_false, not_false_eq_true, not_true_eq_false, forall_const, false_imp_iff, imp_false, true_imp_iff, if_true, if_false, implies_true, reduceIte, reduceCtorEq,
    ↓onO_CF, ↓onO_CT, ↓onI_CT1, ↓onO_CN, ↓onI_CN1, ↓onI_CN2, ↓onI_CN3, ↓onI_CN4, ↓onI_CN5, ↓onI_CN6, ↓onI_CN7, ↓onI_CN8, ↓onO_CS, ↓onI_CS1, ↓onP_CS2, ↓onI_CS3, ↓onI_CS4, ↓onI_CS5, ↓fR_f0, ↓fR_f1, ↓fR_f2, ↓fR_f3, ↓fR_f4, ↓fR_f5, ↓fI_f6, ↓fR_f7, ↓fR_t0, ↓fI_t1, ↓fR_s0, ↓fR_s1, ↓fR_s2, ↓fR_s3, ↓fR_s4, ↓fR_s5, ↓fO_s5, ↓fI_s6, ↓fI_s7, ↓fI_s8, ↓fI_s9, ↓fR_n0, ↓fI_n1, ↓fI_n2, ↓fR_n3, ↓fR_n4, ↓fI_n5, ↓fR_n6, ↓fR_n7, ↓fR_n8, ↓fI_n9, ↓fR_n10, ↓fR_n11, ↓fI_n12,
    CHu_F, CHu_T, CHu_T1, CHu_S5, CHu_S6, CHu_S7, CHu_S8, CHu_S9, CHu_a1, CHu_a2, CHu_a3, CHu_a4, CHu_a5, CHu_N1, CHu_N2, CHu_N5, CHu_N9, CHu_N12, CHu_b1, CHu_b2, CHu_b3, CHu_b4, CHu_b5, CHu_b6, CHu_b7, CHu_b8, ffs_len, tfs_len, sfs_len, nfs_len, sl_i, vuS, vuN, vuV, fS_s, Nat.reduceLT, Nat.reduceEqDiff, Nat.le_refl,
    ↓fI_h0, ↓fI_h1, ↓fR_h2, ↓fR_h3, ↓fI_h4, ↓fR_h5, ↓fI_h6, ↓fR_h7, ↓fR_h8, ↓fI_h9, ↓fI_h10, ↓fI_p0, ↓fI_p1, ↓fR_p2, ↓fO_p3, hfs_s0, hfs_s1, hfs_s4, hfs_s6, hfs_s8, hfs_s9, hfs_s10, hfs_len, pfs_len, pfs_s3, Nat.reduceLT, Nat.reduceEqDiff, nI_add, nI_mulN, lit32, nI_clamp, vp_in_nI, nI_ltI, nI_eq, nI_leI, Nat.reduceMul, Nat.zero_add, Nat.add_zero, B_Told_taken, M_Told_taken, ↓qa, hDS, nI_jrem]
  exact hK
theorem d_taken {kd : Nat} (hkd : kd < 7) {t0 : Tag K} (hd : 2 ≤ d) (hk : k < 4) (hp : p < 6) (hdy : dynA X a) (ha : dh a = some (ob (4 + kd) (pfs a (kd, (p, (st k).1 (24 + p))) o))) (hS : (st k).1 (18 + p) = nI kd) (hD : D < 2 ^ 31) (hDS : (st k).1 2 = nI D) (hK : K (some (.int (sTaken (st k).1 p))) (CH X dh st nt t im)) : dsp X TG_Person_taken d a [.ref (SB X k)] (CH X dh st nt t im) K t0 := by
  have hb := (CH_D (st := st) (nt := nt) (t := t) (im := im) hdy).trans ha
  unfold sTaken at hK
  have : kd = 0 ∨ kd = 1 ∨ kd = 2 ∨ kd = 3 ∨ kd = 4 ∨ kd = 5 ∨ kd = 6 := by omega
  rcases this with rfl | rfl | rfl | rfl | rfl | rfl | rfl
  · simp (disch := omega) only [hS, hDS, lit32, nI_eq, nI_clamp, Nat.reduceEqDiff, if_true, if_false, reduceIte] at hK
    exact dsp_of hb rfl (t_tk0 (by omega) hK)
  · simp (disch := omega) only [hS, hDS, lit32, nI_eq, nI_clamp, Nat.reduceEqDiff, if_true, if_false, reduceIte] at hK
    exact dsp_of hb rfl (t_tk1 (kd := 1) (Or.inl rfl) (by omega) hk hp hdy ha hK)
  · simp (disch := omega) only [hS, hDS, lit32, nI_eq, nI_clamp, Nat.reduceEqDiff, if_true, if_false, reduceIte] at hK
    exact dsp_of hb rfl (t_tk2 (kd := 2) (Or.inl rfl) (by omega) hk hp hdy ha hK)
  · simp (disch := omega) only [hS, hDS, lit32, nI_eq, nI_clamp, Nat.reduceEqDiff, if_true, if_false, reduceIte] at hK
    exact dsp_of hb rfl (t_tk0 (by omega) hK)
  · rw [hS, if_neg (by decide), if_neg (by decide), if_pos (by decide)] at hK
    refine dsp_of hb rfl (t_tk4 (by omega) hk hp hdy ha ?_)
    by_cases c : (st k).1 3 < 3
    · rw [if_pos c] at hK ⊢; exact hK
    · rw [if_neg c, Int32.add_zero] at hK; rw [if_neg c]; exact hK
  · simp (disch := omega) only [hS, hDS, lit32, nI_eq, nI_clamp, Nat.reduceEqDiff, if_true, if_false, reduceIte] at hK
    refine dsp_of hb rfl (t_tk5 (by omega) hk hp hdy ha ?_)
    rw [jabs_e]
    exact hK
  · simp (disch := omega) only [hS, hDS, lit32, nI_eq, nI_clamp, Nat.reduceEqDiff, if_true, if_false, reduceIte] at hK
    refine dsp_of hb rfl (t_tk6 (by omega) hk hp hdy ha hD hDS ?_)
    rw [show 36 + (p * 4 + D % 4) = 36 + 4 * p + D % 4 by omega]
    exact hK
theorem t_bn0 {kd : Nat} (hkd : kd < 7) (hd : 1 ≤ d) (hk : k < 4) (hp : p < 6) (hdy : dynA X a) (ha : dh a = some (ob (4 + kd) (pfs a (kd, (p, v)) o))) (hK : K (some (.int ((st k).1 (5 + p)))) (CH X dh st nt t im)) : CALL X M_Person_beliefNext d [.ref a, .ref (SB X k)] (CH X dh st nt t im) K := by
  have qa := onO_CHd (st := st) (nt := nt) (t := t) (im := im) hdy ha
  have e := cl_in hkd
  obtain ⟨d, rfl⟩ : ∃ e, d = e + 1 := ⟨d - 1, by omega⟩
  refine call_of (by decide +kernel) (by decide) (F_Person_beliefNext X d) (Nat.le_of_ble_eq_true rfl) ?_
  intro g
  simp (disch := first | omega | rfl | (simp (disch := omega) only [vuS, vuN])) only [↓sSeq, ↓sI_f, ↓sL_f, ↓sR_f, ↓sInc_f, fE_c, eset_0, eset_1i, eset_1r, eset_1n, eset_1l, eset_ss, ↓sIf, ↓sBrk, ↓sCnt, ↓sRetI, ↓sRetL, ↓sRetR, ↓sRet, ↓sRetZ, ↓sSkip, ↓sSw, ↓sK, ↓sPop, ↓sFor_t, ↓sast, ↓sastC, ↓szst, ↓spst, ↓sput, ↓sputZ, ↓sputR, ↓sputN, ↓sputC, ↓sCopy,
    ↓xi, ↓xl, ↓xr, ↓xc, ↓xcl, ↓xadd, ↓xsub, ↓xmul, ↓xdiv, ↓xrem, ↓xand, ↓xor, ↓xxor, ↓xshl, ↓xshr, ↓xneg, ↓xaddl, ↓xsubl, ↓xmull, ↓xdivl, ↓xreml, ↓xnegl, ↓xi2l, ↓xi2c, ↓xofC, ↓xite, ↓xitel, ↓xiter, ↓xmax, ↓xmin, ↓xabs, ↓xabsl,
    ↓xg, ↓xgR, ↓xgO, ↓oR, ↓xald, ↓xzld, ↓xpld, ↓xlen, ↓xstr, ↓xinst, ↓cNot, ↓cAnd, ↓cOr, ↓cEq, ↓cLt, ↓cGt, ↓cEq0, ↓cLt0, ↓cGt0, ↓cEqL, ↓cLtL, ↓cGtL, ↓cEqO,
    ↓kI, ↓kL, ↓kR, ↓kV, ↓kS, ↓kD_e, ↓kP, ↓kT, ↓CALL_t, ↓vI, ↓vL, ↓vR, ↓aN, ↓aC, aenv_i, aenv_l, aenv_r, aenv_0, List.replicate, Nat.reduceSub, Nat.reduceAdd, eset2, kill, List.set_cons_zero, List.set_cons_succ, List.set_nil, List.getElem?_cons_zero, List.getElem?_cons_succ, List.getElem?_nil, List.mem_cons, List.not_mem_nil, or_false, or_true, true_and, and_true, true_or, false_or, false_and, and_false, not_false_eq_true, not_true_eq_false, forall_const, false_imp_iff, imp_false, true_imp_iff, if_true, if_false, implies_true, reduceIte, reduceCtorEq,
    ↓onO_CF, ↓onO_CT, ↓onI_CT1, ↓onO_CN, ↓onI_CN1, ↓onI_CN2, ↓onI_CN3, ↓onI_CN4, ↓onI_CN5, ↓onI_CN6, ↓onI_CN7, ↓onI_CN8, ↓onO_CS, ↓onI_CS1, ↓onP_CS2, ↓onI_CS3, ↓onI_CS4, ↓onI_CS5, ↓fR_f0, ↓fR_f1, ↓fR_f2, ↓fR_f3, ↓fR_f4, ↓fR_f5, ↓fI_f6, ↓fR_f7, ↓fR_t0, ↓fI_t1, ↓fR_s0, ↓fR_s1, ↓fR_s2, ↓fR_s3, ↓fR_s4, ↓fR_s5, ↓fO_s5, ↓fI_s6, ↓fI_s7, ↓fI_s8, ↓fI_s9, ↓fR_n0, ↓fI_n1, ↓fI_n2, ↓fR_n3, ↓fR_n4, ↓fI_n5, ↓fR_n6, ↓fR_n7, ↓fR_n8, ↓fI_n9, ↓fR_n10, ↓fR_n11, ↓fI_n12,
    CHu_F, CHu_T, CHu_T1, CHu_S5, CHu_S6, CHu_S7, CHu_S8, CHu_S9, CHu_a1, CHu_a2, CHu_a3, CHu_a4, CHu_a5, CHu_N1, CHu_N2, CHu_N5, CHu_N9, CHu_N12, CHu_b1, CHu_b2, CHu_b3, CHu_b4, CHu_b5, CHu_b6, CHu_b7, CHu_b8, ffs_len, tfs_len, sfs_len, nfs_len, sl_i, vuS, vuN, vuV, fS_s, Nat.reduceLT, Nat.reduceEqDiff, Nat.le_refl,
    ↓fI_h0, ↓fI_h1, ↓fR_h2, ↓fR_h3, ↓fI_h4, ↓fR_h5, ↓fI_h6, ↓fR_h7, ↓fR_h8, ↓fI_h9, ↓fI_h10, ↓fI_p0, ↓fI_p1, ↓fR_p2, ↓fO_p3, hfs_s0, hfs_s1, hfs_s4, hfs_s6, hfs_s8, hfs_s9, hfs_s10, hfs_len, pfs_len, pfs_s3, Nat.reduceLT, Nat.reduceEqDiff, nI_add, nI_mulN, lit32, nI_clamp, vp_in_nI, nI_ltI, nI_eq, nI_leI, Nat.reduceMul, Nat.zero_add, Nat.add_zero, B_Person_beliefNext, M_Person_beliefNext, ↓qa, e]
  exact hK
theorem t_bn1 {kd c : Nat} (hkd : kd = 1 ∨ kd = 4) (hd : 1 ≤ d) (hk : k < 4) (hp : p < 6) (hc : c < 2) (hcS : (st k).1 (30 + p) = nI c) (hdy : dynA X a) (ha : dh a = some (ob (4 + kd) (pfs a (kd, (p, v)) o))) (hK : K (some (.int ((st k).1 (5 + p) + ((st k).1 c - (st k).1 (5 + p)) * v / 10))) (CH X dh st nt t im)) : CALL X M_Learning_beliefNext d [.ref a, .ref (SB X k)] (CH X dh st nt t im) K := by
  have qa := onO_CHd (st := st) (nt := nt) (t := t) (im := im) hdy ha
  have e : (4 + kd = 5 ∨ 4 + kd = 8) = True := eq_true (by omega)
  obtain ⟨d, rfl⟩ : ∃ e, d = e + 1 := ⟨d - 1, by omega⟩
  refine call_of (by decide +kernel) (by decide) (F_Learning_beliefNext X d) (Nat.le_of_ble_eq_true rfl) ?_
  intro g
  simp (disch := first | omega | rfl | (simp (disch := omega) only [vuS, vuN])) only [↓sSeq, ↓sI_f, ↓sL_f, ↓sR_f, ↓sInc_f, fE_c, eset_0, eset_1i, eset_1r, eset_1n, eset_1l, eset_ss, ↓sIf, ↓sBrk, ↓sCnt, ↓sRetI, ↓sRetL, ↓sRetR, ↓sRet, ↓sRetZ, ↓sSkip, ↓sSw, ↓sK, ↓sPop, ↓sFor_t, ↓sast, ↓sastC, ↓szst, ↓spst, ↓sput, ↓sputZ, ↓sputR, ↓sputN, ↓sputC, ↓sCopy,
    ↓xi, ↓xl, ↓xr, ↓xc, ↓xcl, ↓xadd, ↓xsub, ↓xmul, ↓xdiv, ↓xrem, ↓xand, ↓xor, ↓xxor, ↓xshl, ↓xshr, ↓xneg, ↓xaddl, ↓xsubl, ↓xmull, ↓xdivl, ↓xreml, ↓xnegl, ↓xi2l, ↓xi2c, ↓xofC, ↓xite, ↓xitel, ↓xiter, ↓xmax, ↓xmin, ↓xabs, ↓xabsl,
    ↓xg, ↓xgR, ↓xgO, ↓oR, ↓xald, ↓xzld, ↓xpld, ↓xlen, ↓xstr, ↓xinst, ↓cNot, ↓cAnd, ↓cOr, ↓cEq, ↓cLt, ↓cGt, ↓cEq0, ↓cLt0, ↓cGt0, ↓cEqL, ↓cLtL, ↓cGtL, ↓cEqO,
    ↓kI, ↓kL, ↓kR, ↓kV, ↓kS, ↓kD_e, ↓kP, ↓kT, ↓CALL_t, ↓vI, ↓vL, ↓vR, ↓aN, ↓aC, aenv_i, aenv_l, aenv_r, aenv_0, List.replicate, Nat.reduceSub, Nat.reduceAdd, eset2, kill, List.set_cons_zero, List.set_cons_succ, List.set_nil, List.getElem?_cons_zero, List.getElem?_cons_succ, List.getElem?_nil, List.mem_cons, List.not_mem_nil, or_false, or_true, true_and, and_true, true_or, false_or, false_and, and_false, not_false_eq_true, not_true_eq_false, forall_const, false_imp_iff, imp_false, true_imp_iff, if_true, if_false, implies_true, reduceIte, reduceCtorEq,
    ↓onO_CF, ↓onO_CT, ↓onI_CT1, ↓onO_CN, ↓onI_CN1, ↓onI_CN2, ↓onI_CN3, ↓onI_CN4, ↓onI_CN5, ↓onI_CN6, ↓onI_CN7, ↓onI_CN8, ↓onO_CS, ↓onI_CS1, ↓onP_CS2, ↓onI_CS3, ↓onI_CS4, ↓onI_CS5, ↓fR_f0, ↓fR_f1, ↓fR_f2, ↓fR_f3, ↓fR_f4, ↓fR_f5, ↓fI_f6, ↓fR_f7, ↓fR_t0, ↓fI_t1, ↓fR_s0, ↓fR_s1, ↓fR_s2, ↓fR_s3, ↓fR_s4, ↓fR_s5, ↓fO_s5, ↓fI_s6, ↓fI_s7, ↓fI_s8, ↓fI_s9, ↓fR_n0, ↓fI_n1, ↓fI_n2, ↓fR_n3, ↓fR_n4, ↓fI_n5, ↓fR_n6, ↓fR_n7, ↓fR_n8, ↓fI_n9, ↓fR_n10, ↓fR_n11, ↓fI_n12,
    CHu_F, CHu_T, CHu_T1, CHu_S5, CHu_S6, CHu_S7, CHu_S8, CHu_S9, CHu_a1, CHu_a2, CHu_a3, CHu_a4, CHu_a5, CHu_N1, CHu_N2, CHu_N5, CHu_N9, CHu_N12, CHu_b1, CHu_b2, CHu_b3, CHu_b4, CHu_b5, CHu_b6, CHu_b7, CHu_b8, ffs_len, tfs_len, sfs_len, nfs_len, sl_i, vuS, vuN, vuV, fS_s, Nat.reduceLT, Nat.reduceEqDiff, Nat.le_refl,
    ↓fI_h0, ↓fI_h1, ↓fR_h2, ↓fR_h3, ↓fI_h4, ↓fR_h5, ↓fI_h6, ↓fR_h7, ↓fR_h8, ↓fI_h9, ↓fI_h10, ↓fI_p0, ↓fI_p1, ↓fR_p2, ↓fO_p3, hfs_s0, hfs_s1, hfs_s4, hfs_s6, hfs_s8, hfs_s9, hfs_s10, hfs_len, pfs_len, pfs_s3, Nat.reduceLT, Nat.reduceEqDiff, nI_add, nI_mulN, lit32, nI_clamp, vp_in_nI, nI_ltI, nI_eq, nI_leI, Nat.reduceMul, Nat.zero_add, Nat.add_zero, B_Learning_beliefNext, M_Learning_beliefNext, ↓qa, e, hcS]
  exact hK
theorem d_bn {kd c : Nat} (hkd : kd < 7) {t0 : Tag K} (hd : 2 ≤ d) (hk : k < 4) (hp : p < 6) (hdy : dynA X a) (ha : dh a = some (ob (4 + kd) (pfs a (kd, (p, (st k).1 (24 + p))) o))) (hS : (st k).1 (18 + p) = nI kd) (hc : c < 2) (hcS : (st k).1 (30 + p) = nI c) (hK : K (some (.int (sBel (st k).1 p))) (CH X dh st nt t im)) : dsp X TG_Person_beliefNext d a [.ref (SB X k)] (CH X dh st nt t im) K t0 := by
  have hb := (CH_D (st := st) (nt := nt) (t := t) (im := im) hdy).trans ha
  unfold sBel sFastOf at hK
  rw [hcS, nI_clamp (by omega)] at hK
  have e1 : ((st k).1 (18 + p) = 1) ↔ kd = 1 := by rw [hS]; exact nI_eq (a := kd) (b := 1) (by omega) (by omega)
  have e4 : ((st k).1 (18 + p) = 4) ↔ kd = 4 := by rw [hS]; exact nI_eq (a := kd) (b := 4) (by omega) (by omega)
  by_cases z : kd = 1 ∨ kd = 4
  · rw [if_pos (z.imp e1.mpr e4.mpr), Int32.mul_comm] at hK
    refine dsp_of (M := M_Learning_beliefNext) hb ?_ (t_bn1 z (by omega) hk hp hc hcS hdy ha hK)
    rcases z with rfl | rfl <;> rfl
  · rw [if_neg (fun w => z (w.imp e1.mp e4.mp))] at hK
    refine dsp_of (M := M_Person_beliefNext) hb ?_ (t_bn0 hkd (by omega) hk hp hdy ha hK)
    have : kd = 0 ∨ kd = 2 ∨ kd = 3 ∨ kd = 5 ∨ kd = 6 := by omega
    rcases this with rfl | rfl | rfl | rfl | rfl <;> rfl
end TK
/-- what is known of a state's p-th -/
theorem SK.at {b : Nat} {z : SR} (hS : SK P Q z) (hW : WF b z.1) {p : Nat} (hp : p < nP z.1) : ∃ a kd, z.2.1 p = some a ∧ kd < 7 ∧ P a = some (kd, (p, z.1 (24 + p))) ∧ z.1 (18 + p) = nI kd ∧ p < 6 := by
  have h6 := hW.nP
  obtain ⟨a, q, e1, e2, e3⟩ := hS.1 p (by omega)
  obtain ⟨kd, h7, e4⟩ := hW.2.1 p (by omega)
  refine ⟨a, kd, e1, h7, ?_, e4, by omega⟩
  rw [e2, e3 hp, e4, ix_nI (by omega)]
theorem sMargin_mg {S : Nat → Int32} {p c D s kd : Nat} (hkd : kd < 7) (hS : S (18 + p) = nI kd) (hc : S (30 + p) = nI c) (hD : D < 2 ^ 31) (hDS : S 2 = nI D) (hs : S 3 = nI s) : mgOf (progS S) (kd, (p, S (24 + p))) c (D % 7) s = sMargin S p := by
  have e : eP (kd, (p, S (24 + p))) (nI c) (nI (D % 7)) (nI s) = eOf S p := by
    funext j
    unfold eP eOf
    rw [hS, hc, hDS, nI_clamp hD, hs]
  have e3 : (S (18 + p) = 3) ↔ kd = 3 := by rw [hS]; exact nI_eq (a := kd) (b := 3) (by omega) (by omega)
  have e6 : (S (18 + p) = 6) ↔ kd = 6 := by rw [hS]; exact nI_eq (a := kd) (b := 6) (by omega) (by omega)
  unfold mgOf sMargin marginRaw isRash
  rw [e]
  congr 1
  by_cases z : kd = 3 ∨ kd = 6
  · rw [if_pos z]
    rcases z with z | z
    · simp [e3.mpr z]
    · simp [e6.mpr z]
  · have n3 : ¬ S (18 + p) = 3 := fun w => z (Or.inl (e3.mp w))
    have n6 : ¬ S (18 + p) = 6 := fun w => z (Or.inr (e6.mp w))
    rw [if_neg z]; simp [n3, n6]
theorem d_marg {b k a p : Nat} {t0 : Tag K} (hA : FillOK X) (hd : 5 ≤ d) (hDI : DI X P Q dh) (hk : k < 4) (hb : b < 2 ^ 30) (hW : WF b (st k).1) (hS : SK P Q (st k)) (hp : p < nP (st k).1) (hpp : (st k).2.1 p = some a) (hK : ∀ dh', DI X P Q dh' → Fr X dh dh' → K (some (.int (sMargin (st k).1 p))) (CH X dh' st nt t im)) : dsp X TG_Person_margin d a [.ref (SB X k)] (CH X dh st nt t im) K t0 := by
  obtain ⟨a', kd, e1, h7, e2, e3, h6⟩ := hS.at hW hp
  cases hpp.symm.trans e1
  obtain ⟨c, hc, e4⟩ := hW.2.2.1 p h6
  obtain ⟨D, hD, e5⟩ := hW.2.2.2.1
  obtain ⟨s, hs, e6⟩ := hW.2.2.2.2.1
  obtain ⟨p1, p2, p3, cc, o, f0, f1, -⟩ := hDI.1 a _ e2
  refine dsp_of (M := M_Person_margin) ((CH_D (dynP_0 p1)).trans f0) ?_ (t_margC hA hd hDI hk e2 hS.2 hc e4 (by omega) e5 hs e6 (fun dh' h1 h2 => ?_))
  · have : kd = 0 ∨ kd = 1 ∨ kd = 2 ∨ kd = 3 ∨ kd = 4 ∨ kd = 5 ∨ kd = 6 := by omega
    rcases this with rfl | rfl | rfl | rfl | rfl | rfl | rfl <;> rfl
  · rw [sMargin_mg h7 e3 e4 (by omega) e5 e6]
    exact hK dh' h1 h2
theorem t_lateC {b k p : Nat} (hA : FillOK X) (hd : 7 ≤ d) (hDI : DI X P Q dh) (hk : k < 4) (hb : b < 2 ^ 30) (hW : WF b (st k).1) (hS : SK P Q (st k)) (hp : p < nP (st k).1) (hK : ∀ dh', DI X P Q dh' → Fr X dh dh' → K (some (.int (sLate (st k).1 p))) (CH X dh' st nt t im)) : CALL X M_Stat_late d [.ref (SB X k), .int (nI p)] (CH X dh st nt t im) K := by
  obtain ⟨a, kd, e1, h7, e2, e3, h6⟩ := hS.at hW hp
  obtain ⟨c, hc, e4⟩ := hW.2.2.1 p h6
  obtain ⟨D, hD, e5⟩ := hW.2.2.2.1
  obtain ⟨p1, p2, p3, cc, o, f0, f1, -⟩ := hDI.1 a _ e2
  obtain ⟨d, rfl⟩ : ∃ e, d = e + 1 := ⟨d - 1, by omega⟩
  refine call_of (by decide +kernel) (by decide) (F_Stat_late X d) (Nat.le_of_ble_eq_true rfl) ?_
  intro g
  simp (disch := first | omega | rfl | (simp (disch := omega) only [vuS, vuN])) only [↓sSeq, ↓sI_f, ↓sL_f, ↓sR_f, ↓sInc_f, fE_c, eset_0, eset_1i, eset_1r, eset_1n, eset_1l, eset_ss, ↓sIf, ↓sBrk, ↓sCnt, ↓sRetI, ↓sRetL, ↓sRetR, ↓sRet, ↓sRetZ, ↓sSkip, ↓sSw, ↓sK, ↓sPop, ↓sFor_t, ↓sast, ↓sastC, ↓szst, ↓spst, ↓sput, ↓sputZ, ↓sputR, ↓sputN, ↓sputC, ↓sCopy,
    ↓xi, ↓xl, ↓xr, ↓xc, ↓xcl, ↓xadd, ↓xsub, ↓xmul, ↓xdiv, ↓xrem, ↓xand, ↓xor, ↓xxor, ↓xshl, ↓xshr, ↓xneg, ↓xaddl, ↓xsubl, ↓xmull, ↓xdivl, ↓xreml, ↓xnegl, ↓xi2l, ↓xi2c, ↓xofC, ↓xite, ↓xitel, ↓xiter, ↓xmax, ↓xmin, ↓xabs, ↓xabsl,
    ↓xg, ↓xgR, ↓xgO, ↓oR, ↓xald, ↓xzld, ↓xpld, ↓xlen, ↓xstr, ↓xinst, ↓cNot, ↓cAnd, ↓cOr, ↓cEq, ↓cLt, ↓cGt, ↓cEq0, ↓cLt0, ↓cGt0, ↓cEqL, ↓cLtL, ↓cGtL, ↓cEqO,
    ↓kI, ↓kL, ↓kR, ↓kV, ↓kS, ↓kD_e, ↓kP, ↓kT, ↓CALL_t, ↓vI, ↓vL, ↓vR, ↓aN, ↓aC, aenv_i, aenv_l, aenv_r, aenv_0, List.replicate, Nat.reduceSub, Nat.reduceAdd, eset2, kill, List.set_cons_zero, List.set_cons_succ, List.set_nil, List.getElem?_cons_zero, List.getElem?_cons_succ, List.getElem?_nil, List.mem_cons, List.not_mem_nil, or_false, or_true, true_and, and_true, true_or, false_or, false_and, and_false, not_false_eq_true, not_true_eq_false, forall_const, false_imp_iff, imp_false, true_imp_iff, if_true, if_false, implies_true, reduceIte, reduceCtorEq,
    ↓onO_CF, ↓onO_CT, ↓onI_CT1, ↓onO_CN, ↓onI_CN1, ↓onI_CN2, ↓onI_CN3, ↓onI_CN4, ↓onI_CN5, ↓onI_CN6, ↓onI_CN7, ↓onI_CN8, ↓onO_CS, ↓onI_CS1, ↓onP_CS2, ↓onI_CS3, ↓onI_CS4, ↓onI_CS5, ↓fR_f0, ↓fR_f1, ↓fR_f2, ↓fR_f3, ↓fR_f4, ↓fR_f5, ↓fI_f6, ↓fR_f7, ↓fR_t0, ↓fI_t1, ↓fR_s0, ↓fR_s1, ↓fR_s2, ↓fR_s3, ↓fR_s4, ↓fR_s5, ↓fO_s5, ↓fI_s6, ↓fI_s7, ↓fI_s8, ↓fI_s9, ↓fR_n0, ↓fI_n1, ↓fI_n2, ↓fR_n3, ↓fR_n4, ↓fI_n5, ↓fR_n6, ↓fR_n7, ↓fR_n8, ↓fI_n9, ↓fR_n10, ↓fR_n11, ↓fI_n12,
    CHu_F, CHu_T, CHu_T1, CHu_S5, CHu_S6, CHu_S7, CHu_S8, CHu_S9, CHu_a1, CHu_a2, CHu_a3, CHu_a4, CHu_a5, CHu_N1, CHu_N2, CHu_N5, CHu_N9, CHu_N12, CHu_b1, CHu_b2, CHu_b3, CHu_b4, CHu_b5, CHu_b6, CHu_b7, CHu_b8, ffs_len, tfs_len, sfs_len, nfs_len, sl_i, vuS, vuN, vuV, fS_s, Nat.reduceLT, Nat.reduceEqDiff, Nat.le_refl, nI_add, nI_mulN, lit32, nI_clamp, vp_in_nI, nI_ltI, nI_eq, nI_leI, Nat.reduceMul, Nat.zero_add, Nat.add_zero, B_Stat_late, M_Stat_late, e1]
  refine d_taken h7 (by omega) hk h6 (dynP_0 p1) f0 e3 (show D < 2 ^ 31 by omega) e5 ?_
  simp (disch := first | omega | rfl | (simp (disch := omega) only [vuS, vuN])) only [↓sSeq, ↓sI_f, ↓sL_f, ↓sR_f, ↓sInc_f, fE_c, eset_0, eset_1i, eset_1r, eset_1n, eset_1l, eset_ss, ↓sIf, ↓sBrk, ↓sCnt, ↓sRetI, ↓sRetL, ↓sRetR, ↓sRet, ↓sRetZ, ↓sSkip, ↓sSw, ↓sK, ↓sPop, ↓sFor_t, ↓sast, ↓sastC, ↓szst, ↓spst, ↓sput, ↓sputZ, ↓sputR, ↓sputN, ↓sputC, ↓sCopy,
    ↓xi, ↓xl, ↓xr, ↓xc, ↓xcl, ↓xadd, ↓xsub, ↓xmul, ↓xdiv, ↓xrem, ↓xand, ↓xor, ↓xxor, ↓xshl, ↓xshr, ↓xneg, ↓xaddl, ↓xsubl, ↓xmull, ↓xdivl, ↓xreml, ↓xnegl, ↓xi2l, ↓xi2c, ↓xofC, ↓xite, ↓xitel, ↓xiter, ↓xmax, ↓xmin, ↓xabs, ↓xabsl,
    ↓xg, ↓xgR, ↓xgO, ↓oR, ↓xald, ↓xzld, ↓xpld, ↓xlen, ↓xstr, ↓xinst, ↓cNot, ↓cAnd, ↓cOr, ↓cEq, ↓cLt, ↓cGt, ↓cEq0, ↓cLt0, ↓cGt0, ↓cEqL, ↓cLtL, ↓cGtL, ↓cEqO,
    ↓kI, ↓kL, ↓kR, ↓kV, ↓kS, ↓kD_e, ↓kP, ↓kT, ↓CALL_t, ↓vI, ↓vL, ↓vR, ↓aN, ↓aC, aenv_i, aenv_l, aenv_r, aenv_0, List.replicate, Nat.reduceSub, Nat.reduceAdd, eset2, kill, List.set_cons_zero, List.set_cons_succ, List.set_nil, List.getElem?_cons_zero, List.getElem?_cons_succ, List.getElem?_nil, List.mem_cons, List.not_mem_nil, or_false, or_true, true_and, and_true, true_or, false_or, false_and, and_false, not_false_eq_true, not_true_eq_false, forall_const, false_imp_iff, imp_false, true_imp_iff, if_true, if_false, implies_true, reduceIte, reduceCtorEq,
    ↓onO_CF, ↓onO_CT, ↓onI_CT1, ↓onO_CN, ↓onI_CN1, ↓onI_CN2, ↓onI_CN3, ↓onI_CN4, ↓onI_CN5, ↓onI_CN6, ↓onI_CN7, ↓onI_CN8, ↓onO_CS, ↓onI_CS1, ↓onP_CS2, ↓onI_CS3, ↓onI_CS4, ↓onI_CS5, ↓fR_f0, ↓fR_f1, ↓fR_f2, ↓fR_f3, ↓fR_f4, ↓fR_f5, ↓fI_f6, ↓fR_f7, ↓fR_t0, ↓fI_t1, ↓fR_s0, ↓fR_s1, ↓fR_s2, ↓fR_s3, ↓fR_s4, ↓fR_s5, ↓fO_s5, ↓fI_s6, ↓fI_s7, ↓fI_s8, ↓fI_s9, ↓fR_n0, ↓fI_n1, ↓fI_n2, ↓fR_n3, ↓fR_n4, ↓fI_n5, ↓fR_n6, ↓fR_n7, ↓fR_n8, ↓fI_n9, ↓fR_n10, ↓fR_n11, ↓fI_n12,
    CHu_F, CHu_T, CHu_T1, CHu_S5, CHu_S6, CHu_S7, CHu_S8, CHu_S9, CHu_a1, CHu_a2, CHu_a3, CHu_a4, CHu_a5, CHu_N1, CHu_N2, CHu_N5, CHu_N9, CHu_N12, CHu_b1, CHu_b2, CHu_b3, CHu_b4, CHu_b5, CHu_b6, CHu_b7, CHu_b8, ffs_len, tfs_len, sfs_len, nfs_len, sl_i, vuS, vuN, vuV, fS_s, Nat.reduceLT, Nat.reduceEqDiff, Nat.le_refl, nI_add, nI_mulN, lit32, nI_clamp, vp_in_nI, nI_ltI, nI_eq, nI_leI, Nat.reduceMul, Nat.zero_add, Nat.add_zero, e1, e4]
  refine d_marg hA (by omega) hDI hk hb hW hS hp e1 (fun dh' h1 h2 => ?_)
  simp (disch := first | omega | rfl | (simp (disch := omega) only [vuS, vuN])) only [↓sSeq, ↓sI_f, ↓sL_f, ↓sR_f, ↓sInc_f, fE_c, eset_0, eset_1i, eset_1r, eset_1n, eset_1l, eset_ss, ↓sIf, ↓sBrk, ↓sCnt, ↓sRetI, ↓sRetL, ↓sRetR, ↓sRet, ↓sRetZ, ↓sSkip, ↓sSw, ↓sK, ↓sPop, ↓sFor_t, ↓sast, ↓sastC, ↓szst, ↓spst, ↓sput, ↓sputZ, ↓sputR, ↓sputN, ↓sputC, ↓sCopy,
    ↓xi, ↓xl, ↓xr, ↓xc, ↓xcl, ↓xadd, ↓xsub, ↓xmul, ↓xdiv, ↓xrem, ↓xand, ↓xor, ↓xxor, ↓xshl, ↓xshr, ↓xneg, ↓xaddl, ↓xsubl, ↓xmull, ↓xdivl, ↓xreml, ↓xnegl, ↓xi2l, ↓xi2c, ↓xofC, ↓xite, ↓xitel, ↓xiter, ↓xmax, ↓xmin, ↓xabs, ↓xabsl,
    ↓xg, ↓xgR, ↓xgO, ↓oR, ↓xald, ↓xzld, ↓xpld, ↓xlen, ↓xstr, ↓xinst, ↓cNot, ↓cAnd, ↓cOr, ↓cEq, ↓cLt, ↓cGt, ↓cEq0, ↓cLt0, ↓cGt0, ↓cEqL, ↓cLtL, ↓cGtL, ↓cEqO,
    ↓kI, ↓kL, ↓kR, ↓kV, ↓kS, ↓kD_e, ↓kP, ↓kT, ↓CALL_t, ↓vI, ↓vL, ↓vR, ↓aN, ↓aC, aenv_i, aenv_l, aenv_r, aenv_0, List.replicate, Nat.reduceSub, Nat.reduceAdd, eset2, kill, List.set_cons_zero, List.set_cons_succ, List.set_nil, List.getElem?_cons_zero, List.getElem?_cons_succ, List.getElem?_nil, List.mem_cons, List.not_mem_nil, or_false, or_true, true_and, and_true, true_or, false_or, false_and, and_false, not_false_eq_true, not_true_eq_false, forall_const, false_imp_iff, imp_false, true_imp_iff, if_true, if_false, implies_true, reduceIte, reduceCtorEq,
    ↓onO_CF, ↓onO_CT, ↓onI_CT1, ↓onO_CN, ↓onI_CN1, ↓onI_CN2, ↓onI_CN3, ↓onI_CN4, ↓onI_CN5, ↓onI_CN6, ↓onI_CN7, ↓onI_CN8, ↓onO_CS, ↓onI_CS1, ↓onP_CS2, ↓onI_CS3, ↓onI_CS4, ↓onI_CS5, ↓fR_f0, ↓fR_f1, ↓fR_f2, ↓fR_f3, ↓fR_f4, ↓fR_f5, ↓fI_f6, ↓fR_f7, ↓fR_t0, ↓fI_t1, ↓fR_s0, ↓fR_s1, ↓fR_s2, ↓fR_s3, ↓fR_s4, ↓fR_s5, ↓fO_s5, ↓fI_s6, ↓fI_s7, ↓fI_s8, ↓fI_s9, ↓fR_n0, ↓fI_n1, ↓fI_n2, ↓fR_n3, ↓fR_n4, ↓fI_n5, ↓fR_n6, ↓fR_n7, ↓fR_n8, ↓fI_n9, ↓fR_n10, ↓fR_n11, ↓fI_n12,
    CHu_F, CHu_T, CHu_T1, CHu_S5, CHu_S6, CHu_S7, CHu_S8, CHu_S9, CHu_a1, CHu_a2, CHu_a3, CHu_a4, CHu_a5, CHu_N1, CHu_N2, CHu_N5, CHu_N9, CHu_N12, CHu_b1, CHu_b2, CHu_b3, CHu_b4, CHu_b5, CHu_b6, CHu_b7, CHu_b8, ffs_len, tfs_len, sfs_len, nfs_len, sl_i, vuS, vuN, vuV, fS_s, Nat.reduceLT, Nat.reduceEqDiff, Nat.le_refl, nI_add, nI_mulN, lit32, nI_clamp, vp_in_nI, nI_ltI, nI_eq, nI_leI, Nat.reduceMul, Nat.zero_add, Nat.add_zero, e4]
  have := hK dh' h1 h2
  unfold sLate sFastOf at this
  rw [e4, nI_clamp (by omega)] at this
  exact this
end STT
