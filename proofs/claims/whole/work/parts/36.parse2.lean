section PARSE2
/-- what is asked of the String constants' methods -/
def StrOK (X : WX) : Prop := ∀ (i : Nat) (l : List Int32), bytS[i]? = some l → i < 14 ∧ ∀ (d : Nat), 8 ≤ d → ∀ (h : HM) (K : Option Value → HM → Prop), (K (some (.int (nI l.length))) h → CALL X M_JString_length d [.ref (sA X i)] h K) ∧ (∀ (j : Nat) (c : Int32), l[j]? = some c → K (some (.int c)) h → CALL X M_JString_charAt d [.ref (sA X i), .int (nI j)] h K)
/-- the row with so many steps of the house under way -/
def pS (S : Nat → Int32) (a : Nat) (L : List Int32) : Nat → Int32 := fun j => if 215 + 140 * a ≤ j ∧ j < 215 + 140 * a + L.length then (L[j - (215 + 140 * a)]?).getD 0 else if j = 210 + a then nI L.length else S j
def pI (i : Nat → Int32) (o : Nat) (q : PSt) : Nat → Int32 := upd (upd (upd i 6 (nI q.1)) 8 (bI q.2.1)) 9 (nI o)
def PH (X : WX) (h : HM) (i S I F B T : Nat → Int32) (r : Nat → Nat → Int32) (a o : Nat) (q : PSt) : HM := MH X h (pI i o q) (pS S a q.2.2) I F B T r
variable {X : WX} {d : Nat} {h : HM} {i : Nat → Int32} {S I F B T : Nat → Int32} {r : Nat → Nat → Int32} {K : Option Value → HM → Prop} {a e o : Nat}
theorem pI_6 {q : PSt} : pI i o q 6 = nI q.1 := by simp [pI, upd]
theorem pI_8 {q : PSt} : pI i o q 8 = bI q.2.1 := by simp [pI, upd]
theorem pI_9 {q : PSt} : pI i o q 9 = nI o := by simp [pI, upd]
theorem pI_5 {q : PSt} : pI i o q 5 = i 5 := by simp [pI, upd]
theorem pI_7 {q : PSt} : pI i o q 7 = i 7 := by simp [pI, upd]
theorem pIu_6 {s s' : Nat} {x : Bool × List Int32} : upd (pI i o (s, x)) 6 (nI s') = pI i o (s', x) := by
  funext j; unfold pI upd; by_cases q : j = 6
  · subst q; simp
  · simp [q]
theorem pIu_8 {s : Nat} {w w' : Bool} {L : List Int32} {x : Int32} (hx : x = bI w') : upd (pI i o (s, (w, L))) 8 x = pI i o (s, (w', L)) := by
  subst hx
  funext j; unfold pI upd; by_cases q : j = 8
  · subst q; simp
  · simp [q]
theorem pIu_9 {o' : Nat} {q : PSt} : upd (pI i o q) 9 (nI o') = pI i o' q := by
  funext j; unfold pI upd; by_cases q : j = 9
  · subst q; simp
  · simp [q]
theorem pS_lo {L : List Int32} {j : Nat} (hj : j < 210) : pS S a L j = S j := by
  unfold pS; rw [if_neg (by omega), if_neg (by omega)]
theorem pS_n {L : List Int32} : pS S a L (210 + a) = if 215 + 140 * a ≤ 210 + a ∧ 210 + a < 215 + 140 * a + L.length then (L[210 + a - (215 + 140 * a)]?).getD 0 else nI L.length := by
  unfold pS; rw [if_pos (rfl : 210 + a = 210 + a)]
theorem pS_m {L : List Int32} (ha : a < 5) : pS S a L (210 + a) = nI L.length := by rw [pS_n, if_neg (by omega)]
theorem pSu {L : List Int32} {x : Int32} (ha : a < 5) : upd (upd (pS S a L) (215 + 140 * a + L.length) x) (210 + a) (nI (L.length + 1)) = pS S a (L ++ [x]) := by
  funext j
  unfold upd pS
  rw [List.length_append, List.length_singleton]
  by_cases q : j = 210 + a
  · subst q
    rw [if_pos rfl, if_neg (by omega), if_pos rfl]
  · rw [if_neg q]
    by_cases q2 : j = 215 + 140 * a + L.length
    · subst q2
      rw [if_pos rfl, if_pos (by omega), Nat.add_sub_cancel_left]
      simp
    · rw [if_neg q2]
      by_cases q3 : 215 + 140 * a ≤ j ∧ j < 215 + 140 * a + L.length
      · rw [if_pos q3, if_pos (by omega), List.getElem?_append_left (by omega)]
      · rw [if_neg q3, if_neg q, if_neg (by omega), if_neg q]
/-- the tape -/
def tape (S : Nat → Int32) : Nat → Int32 := fun j => if j < 100 then S (100 + j) else 0
theorem t_here (hd : 1 ≤ d) (hi7 : i 7 = nI e) (he : e ≤ 100) {q : PSt} (hq : q.1 ≤ e) (hK : K (some (.int (pHere (tape S) e q.1))) (PH X h i S I F B T r a o q)) : CALL X M_Mod_here d [.ref (mB X)] (PH X h i S I F B T r a o q) K := by
  unfold PH at *
  obtain ⟨d, rfl⟩ : ∃ e, d = e + 1 := ⟨d - 1, by omega⟩
  refine call_of (by decide +kernel) (by decide) (F_Mod_here X d) (Nat.le_of_ble_eq_true rfl) ?_
  intro g
  simp (disch := omega) only [↓sSeq, ↓sI_f, ↓sL_f, ↓sR_f, ↓sInc_f, fE_c, eset_0, eset_1i, eset_1r, eset_1n, eset_1l, eset_ss, ↓sIf, ↓sBrk, ↓sCnt, ↓sRetI, ↓sRetL, ↓sRetR, ↓sRet, ↓sRetZ, ↓sSkip, ↓sSw, ↓sK, ↓sPop, ↓sFor_t, ↓sast, ↓sastC, ↓szst, ↓spst, ↓sput, ↓sputZ, ↓sputR, ↓sputN, ↓sputC, ↓sCopy,
    ↓xi, ↓xl, ↓xr, ↓xc, ↓xcl, ↓xadd, ↓xsub, ↓xmul, ↓xdiv, ↓xrem, ↓xand, ↓xor, ↓xxor, ↓xshl, ↓xshr, ↓xneg, ↓xaddl, ↓xsubl, ↓xmull, ↓xdivl, ↓xreml, ↓xnegl, ↓xi2l, ↓xi2c, ↓xofC, ↓xite, ↓xitel, ↓xiter, ↓xmax, ↓xmin, ↓xabs, ↓xabsl,
    ↓xg, ↓xgR, ↓xgO, ↓oR, ↓xald, ↓xzld, ↓xpld, ↓xlen, ↓xstr, ↓xinst, ↓cNot, ↓cAnd, ↓cOr, ↓cEq, ↓cLt, ↓cGt, ↓cEq0, ↓cLt0, ↓cGt0, ↓cEqL, ↓cLtL, ↓cGtL, ↓cEqO,
    ↓kI, ↓kL, ↓kR, ↓kV, ↓kS, ↓kD, ↓kP, ↓kT, ↓CALL_t, ↓vI, ↓vL, ↓vR, ↓aN, ↓aC, aenv_i, aenv_l, aenv_r, aenv_0, List.replicate, Nat.reduceSub, Nat.reduceAdd, eset2, kill, List.set_cons_zero, List.set_cons_succ, List.set_nil, List.getElem?_cons_zero, List.getElem?_cons_succ, List.getElem?_nil, List.mem_cons, List.not_mem_nil, or_false, or_true, true_and, and_true, true_or, false_or, false_and, and_false, not_false_eq_true, not_true_eq_false, forall_const, false_imp_iff, imp_false, true_imp_iff, if_true, if_false, implies_true, reduceIte, reduceCtorEq,
    ↓onO_M, ↓onI_M1, ↓onI_M2, ↓onI_M3, ↓onI_M4, ↓onZ_M5, ↓onI_M6, ↓onI_M7, ↓onI_M8, ↓onI_M9, ↓onI_M10, ↓onI_M11, ↓fR_m1, ↓fR_m2, ↓fR_m3, ↓fR_m10, ↓fR_m11, ↓fR_m13, ↓fR_m14, ↓fR_m15, ↓fR_m16, ↓fR_m18, ↓fR_m19, ↓fI_m0, ↓fI_m4, ↓fI_m5, ↓fI_m6, ↓fI_m7, ↓fI_m8, ↓fI_m9, ↓fI_m12, ↓fI_m17, ↓fI_m20, ↓fI_m21, ↓fI_m22, ↓fI_m23,
    MHu_0, MHu_1, MHu_2, MHu_3, MHu_4, MHu_5, MHu_6, MHu_7, MHu_8, MHu_9, MHu_10, MHu_11, mfs_s4, mfs_s5, mfs_s6, mfs_s7, mfs_s8, mfs_s9, mfs_s12, mfs_s17, mfs_s20, mfs_s21, mfs_s22, mfs_s23, mfs_len, Nat.reduceLT, nI_add, nI_mulN, lit32, nI_clamp, vp_in_nI, nI_ltI, nI_eq, nI_leI, Nat.reduceMul, Nat.zero_add, Nat.add_zero, B_Mod_here, M_Mod_here, pI_6, pI_7, hi7]
  unfold pHere at hK
  refine ⟨fun z => ?_, fun z => ?_⟩
  · rw [if_pos z, show tape S q.1 = S (100 + q.1) from if_pos (by omega)] at hK
    rw [pS_lo (by omega)]
    exact hK
  · rw [if_neg z] at hK
    exact hK
theorem pIu8_t {s : Nat} {w : Bool} {L : List Int32} : upd (pI i o (s, (w, L))) 8 (nI 1) = pI i o (s, (true, L)) := pIu_8 rfl
theorem pIu8_f {s : Nat} {w : Bool} {L : List Int32} : upd (pI i o (s, (w, L))) 8 (nI 0) = pI i o (s, (false, L)) := pIu_8 rfl
theorem nI_p0 (n : Nat) : nI n + nI 0 = nI n := nI_add n 0
theorem t_must (hd : 2 ≤ d) (hi7 : i 7 = nI e) (he : e ≤ 100) {x : Int32} {q : PSt} (hq : q.1 ≤ e) (hK : K none (PH X h i S I F B T r a o (pMust (tape S) e x q))) : CALL X M_Mod_must d [.ref (mB X), .int x] (PH X h i S I F B T r a o q) K := by
  obtain ⟨s, w, L⟩ := q
  obtain ⟨d, rfl⟩ : ∃ e, d = e + 1 := ⟨d - 1, by omega⟩
  refine call_of (by decide +kernel) (by decide) (F_Mod_must X d) (Nat.le_of_ble_eq_true rfl) ?_
  intro g
  simp (disch := omega) only [↓sSeq, ↓sI_f, ↓sL_f, ↓sR_f, ↓sInc_f, fE_c, eset_0, eset_1i, eset_1r, eset_1n, eset_1l, eset_ss, ↓sIf, ↓sBrk, ↓sCnt, ↓sRetI, ↓sRetL, ↓sRetR, ↓sRet, ↓sRetZ, ↓sSkip, ↓sSw, ↓sK, ↓sPop, ↓sFor_t, ↓sast, ↓sastC, ↓szst, ↓spst, ↓sput, ↓sputZ, ↓sputR, ↓sputN, ↓sputC, ↓sCopy,
    ↓xi, ↓xl, ↓xr, ↓xc, ↓xcl, ↓xadd, ↓xsub, ↓xmul, ↓xdiv, ↓xrem, ↓xand, ↓xor, ↓xxor, ↓xshl, ↓xshr, ↓xneg, ↓xaddl, ↓xsubl, ↓xmull, ↓xdivl, ↓xreml, ↓xnegl, ↓xi2l, ↓xi2c, ↓xofC, ↓xite, ↓xitel, ↓xiter, ↓xmax, ↓xmin, ↓xabs, ↓xabsl,
    ↓xg, ↓xgR, ↓xgO, ↓oR, ↓xald, ↓xzld, ↓xpld, ↓xlen, ↓xstr, ↓xinst, ↓cNot, ↓cAnd, ↓cOr, ↓cEq, ↓cLt, ↓cGt, ↓cEq0, ↓cLt0, ↓cGt0, ↓cEqL, ↓cLtL, ↓cGtL, ↓cEqO,
    ↓kI, ↓kL, ↓kR, ↓kV, ↓kS, ↓kD, ↓kP, ↓kT, ↓CALL_t, ↓vI, ↓vL, ↓vR, ↓aN, ↓aC, aenv_i, aenv_l, aenv_r, aenv_0, List.replicate, Nat.reduceSub, Nat.reduceAdd, eset2, kill, List.set_cons_zero, List.set_cons_succ, List.set_nil, List.getElem?_cons_zero, List.getElem?_cons_succ, List.getElem?_nil, List.mem_cons, List.not_mem_nil, or_false, or_true, true_and, and_true, true_or, false_or, false_and, and_false, not_false_eq_true, not_true_eq_false, forall_const, false_imp_iff, imp_false, true_imp_iff, if_true, if_false, implies_true, reduceIte, reduceCtorEq,
    ↓onO_M, ↓onI_M1, ↓onI_M2, ↓onI_M3, ↓onI_M4, ↓onZ_M5, ↓onI_M6, ↓onI_M7, ↓onI_M8, ↓onI_M9, ↓onI_M10, ↓onI_M11, ↓fR_m1, ↓fR_m2, ↓fR_m3, ↓fR_m10, ↓fR_m11, ↓fR_m13, ↓fR_m14, ↓fR_m15, ↓fR_m16, ↓fR_m18, ↓fR_m19, ↓fI_m0, ↓fI_m4, ↓fI_m5, ↓fI_m6, ↓fI_m7, ↓fI_m8, ↓fI_m9, ↓fI_m12, ↓fI_m17, ↓fI_m20, ↓fI_m21, ↓fI_m22, ↓fI_m23,
    MHu_0, MHu_1, MHu_2, MHu_3, MHu_4, MHu_5, MHu_6, MHu_7, MHu_8, MHu_9, MHu_10, MHu_11, mfs_s4, mfs_s5, mfs_s6, mfs_s7, mfs_s8, mfs_s9, mfs_s12, mfs_s17, mfs_s20, mfs_s21, mfs_s22, mfs_s23, mfs_len, Nat.reduceLT, nI_add, nI_mulN, lit32, nI_clamp, vp_in_nI, nI_ltI, nI_eq, nI_leI, Nat.reduceMul, Nat.zero_add, Nat.add_zero, B_Mod_must, M_Mod_must, PH, pI_8, bI_ne]
  cases w with
  | true =>
    have e1 : pMust (tape S) e x (s, (true, L)) = (s, (true, L)) := if_pos (Or.inl rfl)
    rw [e1] at hK
    simp (disch := omega) only [↓sSeq, ↓sI_f, ↓sL_f, ↓sR_f, ↓sInc_f, fE_c, eset_0, eset_1i, eset_1r, eset_1n, eset_1l, eset_ss, ↓sIf, ↓sBrk, ↓sCnt, ↓sRetI, ↓sRetL, ↓sRetR, ↓sRet, ↓sRetZ, ↓sSkip, ↓sSw, ↓sK, ↓sPop, ↓sFor_t, ↓sast, ↓sastC, ↓szst, ↓spst, ↓sput, ↓sputZ, ↓sputR, ↓sputN, ↓sputC, ↓sCopy,
    ↓xi, ↓xl, ↓xr, ↓xc, ↓xcl, ↓xadd, ↓xsub, ↓xmul, ↓xdiv, ↓xrem, ↓xand, ↓xor, ↓xxor, ↓xshl, ↓xshr, ↓xneg, ↓xaddl, ↓xsubl, ↓xmull, ↓xdivl, ↓xreml, ↓xnegl, ↓xi2l, ↓xi2c, ↓xofC, ↓xite, ↓xitel, ↓xiter, ↓xmax, ↓xmin, ↓xabs, ↓xabsl,
    ↓xg, ↓xgR, ↓xgO, ↓oR, ↓xald, ↓xzld, ↓xpld, ↓xlen, ↓xstr, ↓xinst, ↓cNot, ↓cAnd, ↓cOr, ↓cEq, ↓cLt, ↓cGt, ↓cEq0, ↓cLt0, ↓cGt0, ↓cEqL, ↓cLtL, ↓cGtL, ↓cEqO,
    ↓kI, ↓kL, ↓kR, ↓kV, ↓kS, ↓kD, ↓kP, ↓kT, ↓CALL_t, ↓vI, ↓vL, ↓vR, ↓aN, ↓aC, aenv_i, aenv_l, aenv_r, aenv_0, List.replicate, Nat.reduceSub, Nat.reduceAdd, eset2, kill, List.set_cons_zero, List.set_cons_succ, List.set_nil, List.getElem?_cons_zero, List.getElem?_cons_succ, List.getElem?_nil, List.mem_cons, List.not_mem_nil, or_false, or_true, true_and, and_true, true_or, false_or, false_and, and_false, not_false_eq_true, not_true_eq_false, forall_const, false_imp_iff, imp_false, true_imp_iff, if_true, if_false, implies_true, reduceIte, reduceCtorEq,
    ↓onO_M, ↓onI_M1, ↓onI_M2, ↓onI_M3, ↓onI_M4, ↓onZ_M5, ↓onI_M6, ↓onI_M7, ↓onI_M8, ↓onI_M9, ↓onI_M10, ↓onI_M11, ↓fR_m1, ↓fR_m2, ↓fR_m3, ↓fR_m10, ↓fR_m11, ↓fR_m13, ↓fR_m14, ↓fR_m15, ↓fR_m16, ↓fR_m18, ↓fR_m19, ↓fI_m0, ↓fI_m4, ↓fI_m5, ↓fI_m6, ↓fI_m7, ↓fI_m8, ↓fI_m9, ↓fI_m12, ↓fI_m17, ↓fI_m20, ↓fI_m21, ↓fI_m22, ↓fI_m23,
    MHu_0, MHu_1, MHu_2, MHu_3, MHu_4, MHu_5, MHu_6, MHu_7, MHu_8, MHu_9, MHu_10, MHu_11, mfs_s4, mfs_s5, mfs_s6, mfs_s7, mfs_s8, mfs_s9, mfs_s12, mfs_s17, mfs_s20, mfs_s21, mfs_s22, mfs_s23, mfs_len, Nat.reduceLT, nI_add, nI_mulN, lit32, nI_clamp, vp_in_nI, nI_ltI, nI_eq, nI_leI, Nat.reduceMul, Nat.zero_add, Nat.add_zero, PH, pI_6, pI_8, pI_9, pI_5, pI_7, pIu_6, pIu8_t, pIu8_f, pIu_9, bI_ne, Bool.true_eq_false]
    exact hK
  | false =>
    simp only [true_imp_iff, not_true_eq_false, false_imp_iff, and_true]
    refine t_here (q := (s, (false, L))) (by omega) hi7 he hq ?_
    simp (disch := omega) only [↓sSeq, ↓sI_f, ↓sL_f, ↓sR_f, ↓sInc_f, fE_c, eset_0, eset_1i, eset_1r, eset_1n, eset_1l, eset_ss, ↓sIf, ↓sBrk, ↓sCnt, ↓sRetI, ↓sRetL, ↓sRetR, ↓sRet, ↓sRetZ, ↓sSkip, ↓sSw, ↓sK, ↓sPop, ↓sFor_t, ↓sast, ↓sastC, ↓szst, ↓spst, ↓sput, ↓sputZ, ↓sputR, ↓sputN, ↓sputC, ↓sCopy,
    ↓xi, ↓xl, ↓xr, ↓xc, ↓xcl, ↓xadd, ↓xsub, ↓xmul, ↓xdiv, ↓xrem, ↓xand, ↓xor, ↓xxor, ↓xshl, ↓xshr, ↓xneg, ↓xaddl, ↓xsubl, ↓xmull, ↓xdivl, ↓xreml, ↓xnegl, ↓xi2l, ↓xi2c, ↓xofC, ↓xite, ↓xitel, ↓xiter, ↓xmax, ↓xmin, ↓xabs, ↓xabsl,
    ↓xg, ↓xgR, ↓xgO, ↓oR, ↓xald, ↓xzld, ↓xpld, ↓xlen, ↓xstr, ↓xinst, ↓cNot, ↓cAnd, ↓cOr, ↓cEq, ↓cLt, ↓cGt, ↓cEq0, ↓cLt0, ↓cGt0, ↓cEqL, ↓cLtL, ↓cGtL, ↓cEqO,
    ↓kI, ↓kL, ↓kR, ↓kV, ↓kS, ↓kD, ↓kP, ↓kT, ↓CALL_t, ↓vI, ↓vL, ↓vR, ↓aN, ↓aC, aenv_i, aenv_l, aenv_r, aenv_0, List.replicate, Nat.reduceSub, Nat.reduceAdd, eset2, kill, List.set_cons_zero, List.set_cons_succ, List.set_nil, List.getElem?_cons_zero, List.getElem?_cons_succ, List.getElem?_nil, List.mem_cons, List.not_mem_nil, or_false, or_true, true_and, and_true, true_or, false_or, false_and, and_false, not_false_eq_true, not_true_eq_false, forall_const, false_imp_iff, imp_false, true_imp_iff, if_true, if_false, implies_true, reduceIte, reduceCtorEq,
    ↓onO_M, ↓onI_M1, ↓onI_M2, ↓onI_M3, ↓onI_M4, ↓onZ_M5, ↓onI_M6, ↓onI_M7, ↓onI_M8, ↓onI_M9, ↓onI_M10, ↓onI_M11, ↓fR_m1, ↓fR_m2, ↓fR_m3, ↓fR_m10, ↓fR_m11, ↓fR_m13, ↓fR_m14, ↓fR_m15, ↓fR_m16, ↓fR_m18, ↓fR_m19, ↓fI_m0, ↓fI_m4, ↓fI_m5, ↓fI_m6, ↓fI_m7, ↓fI_m8, ↓fI_m9, ↓fI_m12, ↓fI_m17, ↓fI_m20, ↓fI_m21, ↓fI_m22, ↓fI_m23,
    MHu_0, MHu_1, MHu_2, MHu_3, MHu_4, MHu_5, MHu_6, MHu_7, MHu_8, MHu_9, MHu_10, MHu_11, mfs_s4, mfs_s5, mfs_s6, mfs_s7, mfs_s8, mfs_s9, mfs_s12, mfs_s17, mfs_s20, mfs_s21, mfs_s22, mfs_s23, mfs_len, Nat.reduceLT, nI_add, nI_mulN, lit32, nI_clamp, vp_in_nI, nI_ltI, nI_eq, nI_leI, Nat.reduceMul, Nat.zero_add, Nat.add_zero, PH, pI_6, pI_8, pI_9, pI_5, pI_7, pIu_6, pIu8_t, pIu8_f, pIu_9, bI_ne]
    refine ⟨fun z => ?_, fun z => ?_⟩
    · have e1 : pMust (tape S) e x (s, (false, L)) = (s + 1, (false, L)) := if_neg (fun w => w.elim (fun w => Bool.noConfusion w) (fun w => w z))
      rw [e1] at hK
      exact hK
    · have e1 : pMust (tape S) e x (s, (false, L)) = (s, (true, L)) := if_pos (Or.inr z)
      rw [e1] at hK
      exact hK
theorem t_emits (hd : 1 ≤ d) (ha : a < 5) (hi5 : i 5 = nI a) {x : Int32} {q : PSt} (hq : q.2.2.length ≤ 130) (hK : K none (PH X h i S I F B T r a o (pEmit x q))) : CALL X M_Mod_emits d [.ref (mB X), .int x] (PH X h i S I F B T r a o q) K := by
  obtain ⟨s, w, L⟩ := q
  have hq : L.length ≤ 130 := hq
  obtain ⟨d, rfl⟩ : ∃ e, d = e + 1 := ⟨d - 1, by omega⟩
  refine call_of (by decide +kernel) (by decide) (F_Mod_emits X d) (Nat.le_of_ble_eq_true rfl) ?_
  intro g
  simp (disch := omega) only [↓sSeq, ↓sI_f, ↓sL_f, ↓sR_f, ↓sInc_f, fE_c, eset_0, eset_1i, eset_1r, eset_1n, eset_1l, eset_ss, ↓sIf, ↓sBrk, ↓sCnt, ↓sRetI, ↓sRetL, ↓sRetR, ↓sRet, ↓sRetZ, ↓sSkip, ↓sSw, ↓sK, ↓sPop, ↓sFor_t, ↓sast, ↓sastC, ↓szst, ↓spst, ↓sput, ↓sputZ, ↓sputR, ↓sputN, ↓sputC, ↓sCopy,
    ↓xi, ↓xl, ↓xr, ↓xc, ↓xcl, ↓xadd, ↓xsub, ↓xmul, ↓xdiv, ↓xrem, ↓xand, ↓xor, ↓xxor, ↓xshl, ↓xshr, ↓xneg, ↓xaddl, ↓xsubl, ↓xmull, ↓xdivl, ↓xreml, ↓xnegl, ↓xi2l, ↓xi2c, ↓xofC, ↓xite, ↓xitel, ↓xiter, ↓xmax, ↓xmin, ↓xabs, ↓xabsl,
    ↓xg, ↓xgR, ↓xgO, ↓oR, ↓xald, ↓xzld, ↓xpld, ↓xlen, ↓xstr, ↓xinst, ↓cNot, ↓cAnd, ↓cOr, ↓cEq, ↓cLt, ↓cGt, ↓cEq0, ↓cLt0, ↓cGt0, ↓cEqL, ↓cLtL, ↓cGtL, ↓cEqO,
    ↓kI, ↓kL, ↓kR, ↓kV, ↓kS, ↓kD, ↓kP, ↓kT, ↓CALL_t, ↓vI, ↓vL, ↓vR, ↓aN, ↓aC, aenv_i, aenv_l, aenv_r, aenv_0, List.replicate, Nat.reduceSub, Nat.reduceAdd, eset2, kill, List.set_cons_zero, List.set_cons_succ, List.set_nil, List.getElem?_cons_zero, List.getElem?_cons_succ, List.getElem?_nil, List.mem_cons, List.not_mem_nil, or_false, or_true, true_and, and_true, true_or, false_or, false_and, and_false, not_false_eq_true, not_true_eq_false, forall_const, false_imp_iff, imp_false, true_imp_iff, if_true, if_false, implies_true, reduceIte, reduceCtorEq,
    ↓onO_M, ↓onI_M1, ↓onI_M2, ↓onI_M3, ↓onI_M4, ↓onZ_M5, ↓onI_M6, ↓onI_M7, ↓onI_M8, ↓onI_M9, ↓onI_M10, ↓onI_M11, ↓fR_m1, ↓fR_m2, ↓fR_m3, ↓fR_m10, ↓fR_m11, ↓fR_m13, ↓fR_m14, ↓fR_m15, ↓fR_m16, ↓fR_m18, ↓fR_m19, ↓fI_m0, ↓fI_m4, ↓fI_m5, ↓fI_m6, ↓fI_m7, ↓fI_m8, ↓fI_m9, ↓fI_m12, ↓fI_m17, ↓fI_m20, ↓fI_m21, ↓fI_m22, ↓fI_m23,
    MHu_0, MHu_1, MHu_2, MHu_3, MHu_4, MHu_5, MHu_6, MHu_7, MHu_8, MHu_9, MHu_10, MHu_11, mfs_s4, mfs_s5, mfs_s6, mfs_s7, mfs_s8, mfs_s9, mfs_s12, mfs_s17, mfs_s20, mfs_s21, mfs_s22, mfs_s23, mfs_len, Nat.reduceLT, nI_add, nI_mulN, lit32, nI_clamp, vp_in_nI, nI_ltI, nI_eq, nI_leI, Nat.reduceMul, Nat.zero_add, Nat.add_zero, B_Mod_emits, M_Mod_emits, PH, pI_8, bI_ne]
  cases w with
  | true => exact ⟨fun z => Bool.noConfusion z, fun _ => hK⟩
  | false =>
    have e1 : pEmit x (s, (false, L)) = (s, (false, L ++ [x])) := if_neg (fun w => Bool.noConfusion w)
    rw [e1] at hK
    have e2 : upd (pS S a L) (215 + 140 * a + L.length) x (210 + a) = nI L.length := by rw [upd_n (by omega), pS_m ha]
    simp (disch := omega) only [↓sSeq, ↓sI_f, ↓sL_f, ↓sR_f, ↓sInc_f, fE_c, eset_0, eset_1i, eset_1r, eset_1n, eset_1l, eset_ss, ↓sIf, ↓sBrk, ↓sCnt, ↓sRetI, ↓sRetL, ↓sRetR, ↓sRet, ↓sRetZ, ↓sSkip, ↓sSw, ↓sK, ↓sPop, ↓sFor_t, ↓sast, ↓sastC, ↓szst, ↓spst, ↓sput, ↓sputZ, ↓sputR, ↓sputN, ↓sputC, ↓sCopy,
    ↓xi, ↓xl, ↓xr, ↓xc, ↓xcl, ↓xadd, ↓xsub, ↓xmul, ↓xdiv, ↓xrem, ↓xand, ↓xor, ↓xxor, ↓xshl, ↓xshr, ↓xneg, ↓xaddl, ↓xsubl, ↓xmull, ↓xdivl, ↓xreml, ↓xnegl, ↓xi2l, ↓xi2c, ↓xofC, ↓xite, ↓xitel, ↓xiter, ↓xmax, ↓xmin, ↓xabs, ↓xabsl,
    ↓xg, ↓xgR, ↓xgO, ↓oR, ↓xald, ↓xzld, ↓xpld, ↓xlen, ↓xstr, ↓xinst, ↓cNot, ↓cAnd, ↓cOr, ↓cEq, ↓cLt, ↓cGt, ↓cEq0, ↓cLt0, ↓cGt0, ↓cEqL, ↓cLtL, ↓cGtL, ↓cEqO,
    ↓kI, ↓kL, ↓kR, ↓kV, ↓kS, ↓kD, ↓kP, ↓kT, ↓CALL_t, ↓vI, ↓vL, ↓vR, ↓aN, ↓aC, aenv_i, aenv_l, aenv_r, aenv_0, List.replicate, Nat.reduceSub, Nat.reduceAdd, eset2, kill, List.set_cons_zero, List.set_cons_succ, List.set_nil, List.getElem?_cons_zero, List.getElem?_cons_succ, List.getElem?_nil, List.mem_cons, List.not_mem_nil, or_false, or_true, true_and, and_true, true_or, false_or, false_and, and_false, not_false_eq_true, not_true_eq_false, forall_const, false_imp_iff, imp_false, true_imp_iff, if_true, if_false, implies_true, reduceIte, reduceCtorEq,
    ↓onO_M, ↓onI_M1, ↓onI_M2, ↓onI_M3, ↓onI_M4, ↓onZ_M5, ↓onI_M6, ↓onI_M7, ↓onI_M8, ↓onI_M9, ↓onI_M10, ↓onI_M11, ↓fR_m1, ↓fR_m2, ↓fR_m3, ↓fR_m10, ↓fR_m11, ↓fR_m13, ↓fR_m14, ↓fR_m15, ↓fR_m16, ↓fR_m18, ↓fR_m19, ↓fI_m0, ↓fI_m4, ↓fI_m5, ↓fI_m6, ↓fI_m7, ↓fI_m8, ↓fI_m9, ↓fI_m12, ↓fI_m17, ↓fI_m20, ↓fI_m21, ↓fI_m22, ↓fI_m23,
    MHu_0, MHu_1, MHu_2, MHu_3, MHu_4, MHu_5, MHu_6, MHu_7, MHu_8, MHu_9, MHu_10, MHu_11, mfs_s4, mfs_s5, mfs_s6, mfs_s7, mfs_s8, mfs_s9, mfs_s12, mfs_s17, mfs_s20, mfs_s21, mfs_s22, mfs_s23, mfs_len, Nat.reduceLT, nI_add, nI_mulN, lit32, nI_clamp, vp_in_nI, nI_ltI, nI_eq, nI_leI, Nat.reduceMul, Nat.zero_add, Nat.add_zero, PH, pI_6, pI_8, pI_9, pI_5, pI_7, pIu_6, pIu8_t, pIu8_f, pIu_9, bI_ne, hi5, pS_m ha, e2, pSu ha]
    exact hK
theorem t_amongM (hX : StrOK X) (hd : 9 ≤ d) (hi7 : i 7 = nI e) (he : e ≤ 100) {l : List Int32} {n : Nat} (hn : bytS[n]? = some l) (hl : l.length < 20) {q : PSt} (hq : q.1 ≤ e) (h0 : pAmong (pHere (tape S) e q.1) l 0 = none → K (some (.int (-nI 1))) (PH X h i S I F B T r a o q)) (h1 : ∀ j, j < l.length → pAmong (pHere (tape S) e q.1) l 0 = some j → K (some (.int (nI j))) (PH X h i S I F B T r a o (q.1 + 1, q.2))) : CALL X M_Mod_among d [.ref (mB X), .ref (sA X n)] (PH X h i S I F B T r a o q) K := by
  obtain ⟨s, w, L⟩ := q
  have hx := (hX n l hn).2
  have hn14 := (hX n l hn).1
  obtain ⟨d, rfl⟩ : ∃ e, d = e + 1 := ⟨d - 1, by omega⟩
  refine call_of (by decide +kernel) (by decide) (F_Mod_among X d) (Nat.le_of_ble_eq_true rfl) ?_
  intro g
  simp (disch := omega) only [↓sSeq, ↓sI_f, ↓sL_f, ↓sR_f, ↓sInc_f, fE_c, eset_0, eset_1i, eset_1r, eset_1n, eset_1l, eset_ss, ↓sIf, ↓sBrk, ↓sCnt, ↓sRetI, ↓sRetL, ↓sRetR, ↓sRet, ↓sRetZ, ↓sSkip, ↓sSw, ↓sK, ↓sPop, ↓sFor_t, ↓sast, ↓sastC, ↓szst, ↓spst, ↓sput, ↓sputZ, ↓sputR, ↓sputN, ↓sputC, ↓sCopy,
    ↓xi, ↓xl, ↓xr, ↓xc, ↓xcl, ↓xadd, ↓xsub, ↓xmul, ↓xdiv, ↓xrem, ↓xand, ↓xor, ↓xxor, ↓xshl, ↓xshr, ↓xneg, ↓xaddl, ↓xsubl, ↓xmull, ↓xdivl, ↓xreml, ↓xnegl, ↓xi2l, ↓xi2c, ↓xofC, ↓xite, ↓xitel, ↓xiter, ↓xmax, ↓xmin, ↓xabs, ↓xabsl,
    ↓xg, ↓xgR, ↓xgO, ↓oR, ↓xald, ↓xzld, ↓xpld, ↓xlen, ↓xstr, ↓xinst, ↓cNot, ↓cAnd, ↓cOr, ↓cEq, ↓cLt, ↓cGt, ↓cEq0, ↓cLt0, ↓cGt0, ↓cEqL, ↓cLtL, ↓cGtL, ↓cEqO,
    ↓kI, ↓kL, ↓kR, ↓kV, ↓kS, ↓kD, ↓kP, ↓kT, ↓CALL_t, ↓vI, ↓vL, ↓vR, ↓aN, ↓aC, aenv_i, aenv_l, aenv_r, aenv_0, List.replicate, Nat.reduceSub, Nat.reduceAdd, eset2, kill, List.set_cons_zero, List.set_cons_succ, List.set_nil, List.getElem?_cons_zero, List.getElem?_cons_succ, List.getElem?_nil, List.mem_cons, List.not_mem_nil, or_false, or_true, true_and, and_true, true_or, false_or, false_and, and_false, not_false_eq_true, not_true_eq_false, forall_const, false_imp_iff, imp_false, true_imp_iff, if_true, if_false, implies_true, reduceIte, reduceCtorEq,
    ↓onO_M, ↓onI_M1, ↓onI_M2, ↓onI_M3, ↓onI_M4, ↓onZ_M5, ↓onI_M6, ↓onI_M7, ↓onI_M8, ↓onI_M9, ↓onI_M10, ↓onI_M11, ↓fR_m1, ↓fR_m2, ↓fR_m3, ↓fR_m10, ↓fR_m11, ↓fR_m13, ↓fR_m14, ↓fR_m15, ↓fR_m16, ↓fR_m18, ↓fR_m19, ↓fI_m0, ↓fI_m4, ↓fI_m5, ↓fI_m6, ↓fI_m7, ↓fI_m8, ↓fI_m9, ↓fI_m12, ↓fI_m17, ↓fI_m20, ↓fI_m21, ↓fI_m22, ↓fI_m23,
    MHu_0, MHu_1, MHu_2, MHu_3, MHu_4, MHu_5, MHu_6, MHu_7, MHu_8, MHu_9, MHu_10, MHu_11, mfs_s4, mfs_s5, mfs_s6, mfs_s7, mfs_s8, mfs_s9, mfs_s12, mfs_s17, mfs_s20, mfs_s21, mfs_s22, mfs_s23, mfs_len, Nat.reduceLT, nI_add, nI_mulN, lit32, nI_clamp, vp_in_nI, nI_ltI, nI_eq, nI_leI, Nat.reduceMul, Nat.zero_add, Nat.add_zero, B_Mod_among, M_Mod_among]
  refine for_rule (fun m env σ => ∃ (j : Nat), j + m = l.length ∧ pAmong (pHere (tape S) e s) l 0 = pAmong (pHere (tape S) e s) (l.drop j) j ∧ env = [some (.ref (mB X)), some (.ref (sA X n)), some (.int (nI j))] ∧ σ = (PH X h i S I F B T r a o (s, (w, L)), g)) l.length ⟨0, by omega, by simp, rfl, rfl⟩ ?_
  rintro m env σ P ⟨j, hj, hp, rfl, rfl⟩ hP
  simp (disch := omega) only [↓sSeq, ↓sI_f, ↓sL_f, ↓sR_f, ↓sInc_f, fE_c, eset_0, eset_1i, eset_1r, eset_1n, eset_1l, eset_ss, ↓sIf, ↓sBrk, ↓sCnt, ↓sRetI, ↓sRetL, ↓sRetR, ↓sRet, ↓sRetZ, ↓sSkip, ↓sSw, ↓sK, ↓sPop, ↓sFor_t, ↓sast, ↓sastC, ↓szst, ↓spst, ↓sput, ↓sputZ, ↓sputR, ↓sputN, ↓sputC, ↓sCopy,
    ↓xi, ↓xl, ↓xr, ↓xc, ↓xcl, ↓xadd, ↓xsub, ↓xmul, ↓xdiv, ↓xrem, ↓xand, ↓xor, ↓xxor, ↓xshl, ↓xshr, ↓xneg, ↓xaddl, ↓xsubl, ↓xmull, ↓xdivl, ↓xreml, ↓xnegl, ↓xi2l, ↓xi2c, ↓xofC, ↓xite, ↓xitel, ↓xiter, ↓xmax, ↓xmin, ↓xabs, ↓xabsl,
    ↓xg, ↓xgR, ↓xgO, ↓oR, ↓xald, ↓xzld, ↓xpld, ↓xlen, ↓xstr, ↓xinst, ↓cNot, ↓cAnd, ↓cOr, ↓cEq, ↓cLt, ↓cGt, ↓cEq0, ↓cLt0, ↓cGt0, ↓cEqL, ↓cLtL, ↓cGtL, ↓cEqO,
    ↓kI, ↓kL, ↓kR, ↓kV, ↓kS, ↓kD, ↓kP, ↓kT, ↓CALL_t, ↓vI, ↓vL, ↓vR, ↓aN, ↓aC, aenv_i, aenv_l, aenv_r, aenv_0, List.replicate, Nat.reduceSub, Nat.reduceAdd, eset2, kill, List.set_cons_zero, List.set_cons_succ, List.set_nil, List.getElem?_cons_zero, List.getElem?_cons_succ, List.getElem?_nil, List.mem_cons, List.not_mem_nil, or_false, or_true, true_and, and_true, true_or, false_or, false_and, and_false, not_false_eq_true, not_true_eq_false, forall_const, false_imp_iff, imp_false, true_imp_iff, if_true, if_false, implies_true, reduceIte, reduceCtorEq, nI_add, nI_mulN, lit32, nI_clamp, vp_in_nI, nI_ltI, nI_eq, nI_leI, Nat.reduceMul, Nat.zero_add, Nat.add_zero]
  refine ⟨⟨n, hn14, rfl⟩, (hx d (by omega) _ _).1 ?_⟩
  simp (disch := omega) only [↓sSeq, ↓sI_f, ↓sL_f, ↓sR_f, ↓sInc_f, fE_c, eset_0, eset_1i, eset_1r, eset_1n, eset_1l, eset_ss, ↓sIf, ↓sBrk, ↓sCnt, ↓sRetI, ↓sRetL, ↓sRetR, ↓sRet, ↓sRetZ, ↓sSkip, ↓sSw, ↓sK, ↓sPop, ↓sFor_t, ↓sast, ↓sastC, ↓szst, ↓spst, ↓sput, ↓sputZ, ↓sputR, ↓sputN, ↓sputC, ↓sCopy,
    ↓xi, ↓xl, ↓xr, ↓xc, ↓xcl, ↓xadd, ↓xsub, ↓xmul, ↓xdiv, ↓xrem, ↓xand, ↓xor, ↓xxor, ↓xshl, ↓xshr, ↓xneg, ↓xaddl, ↓xsubl, ↓xmull, ↓xdivl, ↓xreml, ↓xnegl, ↓xi2l, ↓xi2c, ↓xofC, ↓xite, ↓xitel, ↓xiter, ↓xmax, ↓xmin, ↓xabs, ↓xabsl,
    ↓xg, ↓xgR, ↓xgO, ↓oR, ↓xald, ↓xzld, ↓xpld, ↓xlen, ↓xstr, ↓xinst, ↓cNot, ↓cAnd, ↓cOr, ↓cEq, ↓cLt, ↓cGt, ↓cEq0, ↓cLt0, ↓cGt0, ↓cEqL, ↓cLtL, ↓cGtL, ↓cEqO,
    ↓kI, ↓kL, ↓kR, ↓kV, ↓kS, ↓kD, ↓kP, ↓kT, ↓CALL_t, ↓vI, ↓vL, ↓vR, ↓aN, ↓aC, aenv_i, aenv_l, aenv_r, aenv_0, List.replicate, Nat.reduceSub, Nat.reduceAdd, eset2, kill, List.set_cons_zero, List.set_cons_succ, List.set_nil, List.getElem?_cons_zero, List.getElem?_cons_succ, List.getElem?_nil, List.mem_cons, List.not_mem_nil, or_false, or_true, true_and, and_true, true_or, false_or, false_and, and_false, not_false_eq_true, not_true_eq_false, forall_const, false_imp_iff, imp_false, true_imp_iff, if_true, if_false, implies_true, reduceIte, reduceCtorEq, nI_add, nI_mulN, lit32, nI_clamp, vp_in_nI, nI_ltI, nI_eq, nI_leI, Nat.reduceMul, Nat.zero_add, Nat.add_zero]
  refine ⟨fun z => ?_, fun z => ?_⟩
  · obtain ⟨x, hxj⟩ : ∃ x, l[j]? = some x := ⟨l[j], by simp [z]⟩
    have hdr : l.drop j = x :: l.drop (j + 1) := by
      rw [List.drop_eq_getElem_cons z]
      congr 1
      rw [List.getElem?_eq_getElem z] at hxj
      exact Option.some.inj hxj
    rw [hdr] at hp
    have hp : pAmong (pHere (tape S) e s) l 0 = (if pHere (tape S) e s = x then some j else pAmong (pHere (tape S) e s) (l.drop (j + 1)) (j + 1)) := hp
    simp (disch := omega) only [↓sSeq, ↓sI_f, ↓sL_f, ↓sR_f, ↓sInc_f, fE_c, eset_0, eset_1i, eset_1r, eset_1n, eset_1l, eset_ss, ↓sIf, ↓sBrk, ↓sCnt, ↓sRetI, ↓sRetL, ↓sRetR, ↓sRet, ↓sRetZ, ↓sSkip, ↓sSw, ↓sK, ↓sPop, ↓sFor_t, ↓sast, ↓sastC, ↓szst, ↓spst, ↓sput, ↓sputZ, ↓sputR, ↓sputN, ↓sputC, ↓sCopy,
    ↓xi, ↓xl, ↓xr, ↓xc, ↓xcl, ↓xadd, ↓xsub, ↓xmul, ↓xdiv, ↓xrem, ↓xand, ↓xor, ↓xxor, ↓xshl, ↓xshr, ↓xneg, ↓xaddl, ↓xsubl, ↓xmull, ↓xdivl, ↓xreml, ↓xnegl, ↓xi2l, ↓xi2c, ↓xofC, ↓xite, ↓xitel, ↓xiter, ↓xmax, ↓xmin, ↓xabs, ↓xabsl,
    ↓xg, ↓xgR, ↓xgO, ↓oR, ↓xald, ↓xzld, ↓xpld, ↓xlen, ↓xstr, ↓xinst, ↓cNot, ↓cAnd, ↓cOr, ↓cEq, ↓cLt, ↓cGt, ↓cEq0, ↓cLt0, ↓cGt0, ↓cEqL, ↓cLtL, ↓cGtL, ↓cEqO,
    ↓kI, ↓kL, ↓kR, ↓kV, ↓kS, ↓kD, ↓kP, ↓kT, ↓CALL_t, ↓vI, ↓vL, ↓vR, ↓aN, ↓aC, aenv_i, aenv_l, aenv_r, aenv_0, List.replicate, Nat.reduceSub, Nat.reduceAdd, eset2, kill, List.set_cons_zero, List.set_cons_succ, List.set_nil, List.getElem?_cons_zero, List.getElem?_cons_succ, List.getElem?_nil, List.mem_cons, List.not_mem_nil, or_false, or_true, true_and, and_true, true_or, false_or, false_and, and_false, not_false_eq_true, not_true_eq_false, forall_const, false_imp_iff, imp_false, true_imp_iff, if_true, if_false, implies_true, reduceIte, reduceCtorEq,
    ↓onO_M, ↓onI_M1, ↓onI_M2, ↓onI_M3, ↓onI_M4, ↓onZ_M5, ↓onI_M6, ↓onI_M7, ↓onI_M8, ↓onI_M9, ↓onI_M10, ↓onI_M11, ↓fR_m1, ↓fR_m2, ↓fR_m3, ↓fR_m10, ↓fR_m11, ↓fR_m13, ↓fR_m14, ↓fR_m15, ↓fR_m16, ↓fR_m18, ↓fR_m19, ↓fI_m0, ↓fI_m4, ↓fI_m5, ↓fI_m6, ↓fI_m7, ↓fI_m8, ↓fI_m9, ↓fI_m12, ↓fI_m17, ↓fI_m20, ↓fI_m21, ↓fI_m22, ↓fI_m23,
    MHu_0, MHu_1, MHu_2, MHu_3, MHu_4, MHu_5, MHu_6, MHu_7, MHu_8, MHu_9, MHu_10, MHu_11, mfs_s4, mfs_s5, mfs_s6, mfs_s7, mfs_s8, mfs_s9, mfs_s12, mfs_s17, mfs_s20, mfs_s21, mfs_s22, mfs_s23, mfs_len, Nat.reduceLT, nI_add, nI_mulN, lit32, nI_clamp, vp_in_nI, nI_ltI, nI_eq, nI_leI, Nat.reduceMul, Nat.zero_add, Nat.add_zero, PH, pI_6, pI_8, pI_9, pI_5, pI_7, pIu_6, pIu8_t, pIu8_f, pIu_9, bI_ne, L_Mod_among_1]
    refine t_here (q := (s, (w, L))) (by omega) hi7 he hq ?_
    simp (disch := omega) only [↓sSeq, ↓sI_f, ↓sL_f, ↓sR_f, ↓sInc_f, fE_c, eset_0, eset_1i, eset_1r, eset_1n, eset_1l, eset_ss, ↓sIf, ↓sBrk, ↓sCnt, ↓sRetI, ↓sRetL, ↓sRetR, ↓sRet, ↓sRetZ, ↓sSkip, ↓sSw, ↓sK, ↓sPop, ↓sFor_t, ↓sast, ↓sastC, ↓szst, ↓spst, ↓sput, ↓sputZ, ↓sputR, ↓sputN, ↓sputC, ↓sCopy,
    ↓xi, ↓xl, ↓xr, ↓xc, ↓xcl, ↓xadd, ↓xsub, ↓xmul, ↓xdiv, ↓xrem, ↓xand, ↓xor, ↓xxor, ↓xshl, ↓xshr, ↓xneg, ↓xaddl, ↓xsubl, ↓xmull, ↓xdivl, ↓xreml, ↓xnegl, ↓xi2l, ↓xi2c, ↓xofC, ↓xite, ↓xitel, ↓xiter, ↓xmax, ↓xmin, ↓xabs, ↓xabsl,
    ↓xg, ↓xgR, ↓xgO, ↓oR, ↓xald, ↓xzld, ↓xpld, ↓xlen, ↓xstr, ↓xinst, ↓cNot, ↓cAnd, ↓cOr, ↓cEq, ↓cLt, ↓cGt, ↓cEq0, ↓cLt0, ↓cGt0, ↓cEqL, ↓cLtL, ↓cGtL, ↓cEqO,
    ↓kI, ↓kL, ↓kR, ↓kV, ↓kS, ↓kD, ↓kP, ↓kT, ↓CALL_t, ↓vI, ↓vL, ↓vR, ↓aN, ↓aC, aenv_i, aenv_l, aenv_r, aenv_0, List.replicate, Nat.reduceSub, Nat.reduceAdd, eset2, kill, List.set_cons_zero, List.set_cons_succ, List.set_nil, List.getElem?_cons_zero, List.getElem?_cons_succ, List.getElem?_nil, List.mem_cons, List.not_mem_nil, or_false, or_true, true_and, and_true, true_or, false_or, false_and, and_false, not_false_eq_true, not_true_eq_false, forall_const, false_imp_iff, imp_false, true_imp_iff, if_true, if_false, implies_true, reduceIte, reduceCtorEq,
    ↓onO_M, ↓onI_M1, ↓onI_M2, ↓onI_M3, ↓onI_M4, ↓onZ_M5, ↓onI_M6, ↓onI_M7, ↓onI_M8, ↓onI_M9, ↓onI_M10, ↓onI_M11, ↓fR_m1, ↓fR_m2, ↓fR_m3, ↓fR_m10, ↓fR_m11, ↓fR_m13, ↓fR_m14, ↓fR_m15, ↓fR_m16, ↓fR_m18, ↓fR_m19, ↓fI_m0, ↓fI_m4, ↓fI_m5, ↓fI_m6, ↓fI_m7, ↓fI_m8, ↓fI_m9, ↓fI_m12, ↓fI_m17, ↓fI_m20, ↓fI_m21, ↓fI_m22, ↓fI_m23,
    MHu_0, MHu_1, MHu_2, MHu_3, MHu_4, MHu_5, MHu_6, MHu_7, MHu_8, MHu_9, MHu_10, MHu_11, mfs_s4, mfs_s5, mfs_s6, mfs_s7, mfs_s8, mfs_s9, mfs_s12, mfs_s17, mfs_s20, mfs_s21, mfs_s22, mfs_s23, mfs_len, Nat.reduceLT, nI_add, nI_mulN, lit32, nI_clamp, vp_in_nI, nI_ltI, nI_eq, nI_leI, Nat.reduceMul, Nat.zero_add, Nat.add_zero, PH, pI_6, pI_8, pI_9, pI_5, pI_7, pIu_6, pIu8_t, pIu8_f, pIu_9, bI_ne]
    refine ⟨⟨n, hn14, rfl⟩, (hx d (by omega) _ _).2 j x hxj ?_⟩
    simp (disch := omega) only [↓sSeq, ↓sI_f, ↓sL_f, ↓sR_f, ↓sInc_f, fE_c, eset_0, eset_1i, eset_1r, eset_1n, eset_1l, eset_ss, ↓sIf, ↓sBrk, ↓sCnt, ↓sRetI, ↓sRetL, ↓sRetR, ↓sRet, ↓sRetZ, ↓sSkip, ↓sSw, ↓sK, ↓sPop, ↓sFor_t, ↓sast, ↓sastC, ↓szst, ↓spst, ↓sput, ↓sputZ, ↓sputR, ↓sputN, ↓sputC, ↓sCopy,
    ↓xi, ↓xl, ↓xr, ↓xc, ↓xcl, ↓xadd, ↓xsub, ↓xmul, ↓xdiv, ↓xrem, ↓xand, ↓xor, ↓xxor, ↓xshl, ↓xshr, ↓xneg, ↓xaddl, ↓xsubl, ↓xmull, ↓xdivl, ↓xreml, ↓xnegl, ↓xi2l, ↓xi2c, ↓xofC, ↓xite, ↓xitel, ↓xiter, ↓xmax, ↓xmin, ↓xabs, ↓xabsl,
    ↓xg, ↓xgR, ↓xgO, ↓oR, ↓xald, ↓xzld, ↓xpld, ↓xlen, ↓xstr, ↓xinst, ↓cNot, ↓cAnd, ↓cOr, ↓cEq, ↓cLt, ↓cGt, ↓cEq0, ↓cLt0, ↓cGt0, ↓cEqL, ↓cLtL, ↓cGtL, ↓cEqO,
    ↓kI, ↓kL, ↓kR, ↓kV, ↓kS, ↓kD, ↓kP, ↓kT, ↓CALL_t, ↓vI, ↓vL, ↓vR, ↓aN, ↓aC, aenv_i, aenv_l, aenv_r, aenv_0, List.replicate, Nat.reduceSub, Nat.reduceAdd, eset2, kill, List.set_cons_zero, List.set_cons_succ, List.set_nil, List.getElem?_cons_zero, List.getElem?_cons_succ, List.getElem?_nil, List.mem_cons, List.not_mem_nil, or_false, or_true, true_and, and_true, true_or, false_or, false_and, and_false, not_false_eq_true, not_true_eq_false, forall_const, false_imp_iff, imp_false, true_imp_iff, if_true, if_false, implies_true, reduceIte, reduceCtorEq,
    ↓onO_M, ↓onI_M1, ↓onI_M2, ↓onI_M3, ↓onI_M4, ↓onZ_M5, ↓onI_M6, ↓onI_M7, ↓onI_M8, ↓onI_M9, ↓onI_M10, ↓onI_M11, ↓fR_m1, ↓fR_m2, ↓fR_m3, ↓fR_m10, ↓fR_m11, ↓fR_m13, ↓fR_m14, ↓fR_m15, ↓fR_m16, ↓fR_m18, ↓fR_m19, ↓fI_m0, ↓fI_m4, ↓fI_m5, ↓fI_m6, ↓fI_m7, ↓fI_m8, ↓fI_m9, ↓fI_m12, ↓fI_m17, ↓fI_m20, ↓fI_m21, ↓fI_m22, ↓fI_m23,
    MHu_0, MHu_1, MHu_2, MHu_3, MHu_4, MHu_5, MHu_6, MHu_7, MHu_8, MHu_9, MHu_10, MHu_11, mfs_s4, mfs_s5, mfs_s6, mfs_s7, mfs_s8, mfs_s9, mfs_s12, mfs_s17, mfs_s20, mfs_s21, mfs_s22, mfs_s23, mfs_len, Nat.reduceLT, nI_add, nI_mulN, lit32, nI_clamp, vp_in_nI, nI_ltI, nI_eq, nI_leI, Nat.reduceMul, Nat.zero_add, Nat.add_zero, PH, pI_6, pI_8, pI_9, pI_5, pI_7, pIu_6, pIu8_t, pIu8_f, pIu_9, bI_ne]
    refine ⟨fun y => ?_, fun y => ?_⟩
    · rw [if_pos y] at hp
      exact h1 j z hp
    · rw [if_neg y] at hp
      exact hP (m - 1) _ _ (by omega) ⟨j + 1, by omega, hp, rfl, rfl⟩
  · have : j = l.length := by omega
    subst this
    rw [List.drop_length] at hp
    exact h0 hp
theorem t_spells (hX : StrOK X) (hd : 9 ≤ d) (hi7 : i 7 = nI e) (he : e ≤ 100) {l : List Int32} {n : Nat} (hn : bytS[n]? = some l) (hl : l.length < 20) (hl2 : ∀ x, x ∈ l → ¬ x = -nI 1) {q : PSt} (hq : q.1 ≤ e) (hK : K none (PH X h i S I F B T r a o (pSpell (tape S) e l q))) : CALL X M_Mod_spells d [.ref (mB X), .ref (sA X n)] (PH X h i S I F B T r a o q) K := by
  have hx := (hX n l hn).2
  have hn14 := (hX n l hn).1
  obtain ⟨d, rfl⟩ : ∃ e, d = e + 1 := ⟨d - 1, by omega⟩
  refine call_of (by decide +kernel) (by decide) (F_Mod_spells X d) (Nat.le_of_ble_eq_true rfl) ?_
  intro g
  simp (disch := omega) only [↓sSeq, ↓sI_f, ↓sL_f, ↓sR_f, ↓sInc_f, fE_c, eset_0, eset_1i, eset_1r, eset_1n, eset_1l, eset_ss, ↓sIf, ↓sBrk, ↓sCnt, ↓sRetI, ↓sRetL, ↓sRetR, ↓sRet, ↓sRetZ, ↓sSkip, ↓sSw, ↓sK, ↓sPop, ↓sFor_t, ↓sast, ↓sastC, ↓szst, ↓spst, ↓sput, ↓sputZ, ↓sputR, ↓sputN, ↓sputC, ↓sCopy,
    ↓xi, ↓xl, ↓xr, ↓xc, ↓xcl, ↓xadd, ↓xsub, ↓xmul, ↓xdiv, ↓xrem, ↓xand, ↓xor, ↓xxor, ↓xshl, ↓xshr, ↓xneg, ↓xaddl, ↓xsubl, ↓xmull, ↓xdivl, ↓xreml, ↓xnegl, ↓xi2l, ↓xi2c, ↓xofC, ↓xite, ↓xitel, ↓xiter, ↓xmax, ↓xmin, ↓xabs, ↓xabsl,
    ↓xg, ↓xgR, ↓xgO, ↓oR, ↓xald, ↓xzld, ↓xpld, ↓xlen, ↓xstr, ↓xinst, ↓cNot, ↓cAnd, ↓cOr, ↓cEq, ↓cLt, ↓cGt, ↓cEq0, ↓cLt0, ↓cGt0, ↓cEqL, ↓cLtL, ↓cGtL, ↓cEqO,
    ↓kI, ↓kL, ↓kR, ↓kV, ↓kS, ↓kD, ↓kP, ↓kT, ↓CALL_t, ↓vI, ↓vL, ↓vR, ↓aN, ↓aC, aenv_i, aenv_l, aenv_r, aenv_0, List.replicate, Nat.reduceSub, Nat.reduceAdd, eset2, kill, List.set_cons_zero, List.set_cons_succ, List.set_nil, List.getElem?_cons_zero, List.getElem?_cons_succ, List.getElem?_nil, List.mem_cons, List.not_mem_nil, or_false, or_true, true_and, and_true, true_or, false_or, false_and, and_false, not_false_eq_true, not_true_eq_false, forall_const, false_imp_iff, imp_false, true_imp_iff, if_true, if_false, implies_true, reduceIte, reduceCtorEq,
    ↓onO_M, ↓onI_M1, ↓onI_M2, ↓onI_M3, ↓onI_M4, ↓onZ_M5, ↓onI_M6, ↓onI_M7, ↓onI_M8, ↓onI_M9, ↓onI_M10, ↓onI_M11, ↓fR_m1, ↓fR_m2, ↓fR_m3, ↓fR_m10, ↓fR_m11, ↓fR_m13, ↓fR_m14, ↓fR_m15, ↓fR_m16, ↓fR_m18, ↓fR_m19, ↓fI_m0, ↓fI_m4, ↓fI_m5, ↓fI_m6, ↓fI_m7, ↓fI_m8, ↓fI_m9, ↓fI_m12, ↓fI_m17, ↓fI_m20, ↓fI_m21, ↓fI_m22, ↓fI_m23,
    MHu_0, MHu_1, MHu_2, MHu_3, MHu_4, MHu_5, MHu_6, MHu_7, MHu_8, MHu_9, MHu_10, MHu_11, mfs_s4, mfs_s5, mfs_s6, mfs_s7, mfs_s8, mfs_s9, mfs_s12, mfs_s17, mfs_s20, mfs_s21, mfs_s22, mfs_s23, mfs_len, Nat.reduceLT, nI_add, nI_mulN, lit32, nI_clamp, vp_in_nI, nI_ltI, nI_eq, nI_leI, Nat.reduceMul, Nat.zero_add, Nat.add_zero, B_Mod_spells, M_Mod_spells]
  refine for_rule (fun m env σ => ∃ (j : Nat) (q' : PSt), j + m = l.length ∧ q'.1 ≤ e ∧ pSpell (tape S) e l q = pSpell (tape S) e (l.drop j) q' ∧ env = [some (.ref (mB X)), some (.ref (sA X n)), some (.int (nI j))] ∧ σ = (PH X h i S I F B T r a o q', g)) l.length ⟨0, q, by omega, hq, by simp, rfl, rfl⟩ ?_
  rintro m env σ P ⟨j, q', hj, hq', hp, rfl, rfl⟩ hP
  simp (disch := omega) only [↓sSeq, ↓sI_f, ↓sL_f, ↓sR_f, ↓sInc_f, fE_c, eset_0, eset_1i, eset_1r, eset_1n, eset_1l, eset_ss, ↓sIf, ↓sBrk, ↓sCnt, ↓sRetI, ↓sRetL, ↓sRetR, ↓sRet, ↓sRetZ, ↓sSkip, ↓sSw, ↓sK, ↓sPop, ↓sFor_t, ↓sast, ↓sastC, ↓szst, ↓spst, ↓sput, ↓sputZ, ↓sputR, ↓sputN, ↓sputC, ↓sCopy,
    ↓xi, ↓xl, ↓xr, ↓xc, ↓xcl, ↓xadd, ↓xsub, ↓xmul, ↓xdiv, ↓xrem, ↓xand, ↓xor, ↓xxor, ↓xshl, ↓xshr, ↓xneg, ↓xaddl, ↓xsubl, ↓xmull, ↓xdivl, ↓xreml, ↓xnegl, ↓xi2l, ↓xi2c, ↓xofC, ↓xite, ↓xitel, ↓xiter, ↓xmax, ↓xmin, ↓xabs, ↓xabsl,
    ↓xg, ↓xgR, ↓xgO, ↓oR, ↓xald, ↓xzld, ↓xpld, ↓xlen, ↓xstr, ↓xinst, ↓cNot, ↓cAnd, ↓cOr, ↓cEq, ↓cLt, ↓cGt, ↓cEq0, ↓cLt0, ↓cGt0, ↓cEqL, ↓cLtL, ↓cGtL, ↓cEqO,
    ↓kI, ↓kL, ↓kR, ↓kV, ↓kS, ↓kD, ↓kP, ↓kT, ↓CALL_t, ↓vI, ↓vL, ↓vR, ↓aN, ↓aC, aenv_i, aenv_l, aenv_r, aenv_0, List.replicate, Nat.reduceSub, Nat.reduceAdd, eset2, kill, List.set_cons_zero, List.set_cons_succ, List.set_nil, List.getElem?_cons_zero, List.getElem?_cons_succ, List.getElem?_nil, List.mem_cons, List.not_mem_nil, or_false, or_true, true_and, and_true, true_or, false_or, false_and, and_false, not_false_eq_true, not_true_eq_false, forall_const, false_imp_iff, imp_false, true_imp_iff, if_true, if_false, implies_true, reduceIte, reduceCtorEq, nI_add, nI_mulN, lit32, nI_clamp, vp_in_nI, nI_ltI, nI_eq, nI_leI, Nat.reduceMul, Nat.zero_add, Nat.add_zero]
  refine ⟨⟨n, hn14, rfl⟩, (hx d (by omega) _ _).1 ?_⟩
  simp (disch := omega) only [↓sSeq, ↓sI_f, ↓sL_f, ↓sR_f, ↓sInc_f, fE_c, eset_0, eset_1i, eset_1r, eset_1n, eset_1l, eset_ss, ↓sIf, ↓sBrk, ↓sCnt, ↓sRetI, ↓sRetL, ↓sRetR, ↓sRet, ↓sRetZ, ↓sSkip, ↓sSw, ↓sK, ↓sPop, ↓sFor_t, ↓sast, ↓sastC, ↓szst, ↓spst, ↓sput, ↓sputZ, ↓sputR, ↓sputN, ↓sputC, ↓sCopy,
    ↓xi, ↓xl, ↓xr, ↓xc, ↓xcl, ↓xadd, ↓xsub, ↓xmul, ↓xdiv, ↓xrem, ↓xand, ↓xor, ↓xxor, ↓xshl, ↓xshr, ↓xneg, ↓xaddl, ↓xsubl, ↓xmull, ↓xdivl, ↓xreml, ↓xnegl, ↓xi2l, ↓xi2c, ↓xofC, ↓xite, ↓xitel, ↓xiter, ↓xmax, ↓xmin, ↓xabs, ↓xabsl,
    ↓xg, ↓xgR, ↓xgO, ↓oR, ↓xald, ↓xzld, ↓xpld, ↓xlen, ↓xstr, ↓xinst, ↓cNot, ↓cAnd, ↓cOr, ↓cEq, ↓cLt, ↓cGt, ↓cEq0, ↓cLt0, ↓cGt0, ↓cEqL, ↓cLtL, ↓cGtL, ↓cEqO,
    ↓kI, ↓kL, ↓kR, ↓kV, ↓kS, ↓kD, ↓kP, ↓kT, ↓CALL_t, ↓vI, ↓vL, ↓vR, ↓aN, ↓aC, aenv_i, aenv_l, aenv_r, aenv_0, List.replicate, Nat.reduceSub, Nat.reduceAdd, eset2, kill, List.set_cons_zero, List.set_cons_succ, List.set_nil, List.getElem?_cons_zero, List.getElem?_cons_succ, List.getElem?_nil, List.mem_cons, List.not_mem_nil, or_false, or_true, true_and, and_true, true_or, false_or, false_and, and_false, not_false_eq_true, not_true_eq_false, forall_const, false_imp_iff, imp_false, true_imp_iff, if_true, if_false, implies_true, reduceIte, reduceCtorEq, nI_add, nI_mulN, lit32, nI_clamp, vp_in_nI, nI_ltI, nI_eq, nI_leI, Nat.reduceMul, Nat.zero_add, Nat.add_zero]
  refine ⟨fun z => ?_, fun z => ?_⟩
  · obtain ⟨x, hxj⟩ : ∃ x, l[j]? = some x := ⟨l[j], by simp [z]⟩
    have hdr : l.drop j = x :: l.drop (j + 1) := by
      rw [List.drop_eq_getElem_cons z]
      congr 1
      rw [List.getElem?_eq_getElem z] at hxj
      exact Option.some.inj hxj
    rw [hdr] at hp
    simp (disch := omega) only [↓sSeq, ↓sI_f, ↓sL_f, ↓sR_f, ↓sInc_f, fE_c, eset_0, eset_1i, eset_1r, eset_1n, eset_1l, eset_ss, ↓sIf, ↓sBrk, ↓sCnt, ↓sRetI, ↓sRetL, ↓sRetR, ↓sRet, ↓sRetZ, ↓sSkip, ↓sSw, ↓sK, ↓sPop, ↓sFor_t, ↓sast, ↓sastC, ↓szst, ↓spst, ↓sput, ↓sputZ, ↓sputR, ↓sputN, ↓sputC, ↓sCopy,
    ↓xi, ↓xl, ↓xr, ↓xc, ↓xcl, ↓xadd, ↓xsub, ↓xmul, ↓xdiv, ↓xrem, ↓xand, ↓xor, ↓xxor, ↓xshl, ↓xshr, ↓xneg, ↓xaddl, ↓xsubl, ↓xmull, ↓xdivl, ↓xreml, ↓xnegl, ↓xi2l, ↓xi2c, ↓xofC, ↓xite, ↓xitel, ↓xiter, ↓xmax, ↓xmin, ↓xabs, ↓xabsl,
    ↓xg, ↓xgR, ↓xgO, ↓oR, ↓xald, ↓xzld, ↓xpld, ↓xlen, ↓xstr, ↓xinst, ↓cNot, ↓cAnd, ↓cOr, ↓cEq, ↓cLt, ↓cGt, ↓cEq0, ↓cLt0, ↓cGt0, ↓cEqL, ↓cLtL, ↓cGtL, ↓cEqO,
    ↓kI, ↓kL, ↓kR, ↓kV, ↓kS, ↓kD, ↓kP, ↓kT, ↓CALL_t, ↓vI, ↓vL, ↓vR, ↓aN, ↓aC, aenv_i, aenv_l, aenv_r, aenv_0, List.replicate, Nat.reduceSub, Nat.reduceAdd, eset2, kill, List.set_cons_zero, List.set_cons_succ, List.set_nil, List.getElem?_cons_zero, List.getElem?_cons_succ, List.getElem?_nil, List.mem_cons, List.not_mem_nil, or_false, or_true, true_and, and_true, true_or, false_or, false_and, and_false, not_false_eq_true, not_true_eq_false, forall_const, false_imp_iff, imp_false, true_imp_iff, if_true, if_false, implies_true, reduceIte, reduceCtorEq,
    ↓onO_M, ↓onI_M1, ↓onI_M2, ↓onI_M3, ↓onI_M4, ↓onZ_M5, ↓onI_M6, ↓onI_M7, ↓onI_M8, ↓onI_M9, ↓onI_M10, ↓onI_M11, ↓fR_m1, ↓fR_m2, ↓fR_m3, ↓fR_m10, ↓fR_m11, ↓fR_m13, ↓fR_m14, ↓fR_m15, ↓fR_m16, ↓fR_m18, ↓fR_m19, ↓fI_m0, ↓fI_m4, ↓fI_m5, ↓fI_m6, ↓fI_m7, ↓fI_m8, ↓fI_m9, ↓fI_m12, ↓fI_m17, ↓fI_m20, ↓fI_m21, ↓fI_m22, ↓fI_m23,
    MHu_0, MHu_1, MHu_2, MHu_3, MHu_4, MHu_5, MHu_6, MHu_7, MHu_8, MHu_9, MHu_10, MHu_11, mfs_s4, mfs_s5, mfs_s6, mfs_s7, mfs_s8, mfs_s9, mfs_s12, mfs_s17, mfs_s20, mfs_s21, mfs_s22, mfs_s23, mfs_len, Nat.reduceLT, nI_add, nI_mulN, lit32, nI_clamp, vp_in_nI, nI_ltI, nI_eq, nI_leI, Nat.reduceMul, Nat.zero_add, Nat.add_zero, PH, pI_6, pI_8, pI_9, pI_5, pI_7, pIu_6, pIu8_t, pIu8_f, pIu_9, bI_ne, L_Mod_spells_1]
    refine ⟨⟨n, hn14, rfl⟩, (hx d (by omega) _ _).2 j x hxj ?_⟩
    simp (disch := omega) only [↓sSeq, ↓sI_f, ↓sL_f, ↓sR_f, ↓sInc_f, fE_c, eset_0, eset_1i, eset_1r, eset_1n, eset_1l, eset_ss, ↓sIf, ↓sBrk, ↓sCnt, ↓sRetI, ↓sRetL, ↓sRetR, ↓sRet, ↓sRetZ, ↓sSkip, ↓sSw, ↓sK, ↓sPop, ↓sFor_t, ↓sast, ↓sastC, ↓szst, ↓spst, ↓sput, ↓sputZ, ↓sputR, ↓sputN, ↓sputC, ↓sCopy,
    ↓xi, ↓xl, ↓xr, ↓xc, ↓xcl, ↓xadd, ↓xsub, ↓xmul, ↓xdiv, ↓xrem, ↓xand, ↓xor, ↓xxor, ↓xshl, ↓xshr, ↓xneg, ↓xaddl, ↓xsubl, ↓xmull, ↓xdivl, ↓xreml, ↓xnegl, ↓xi2l, ↓xi2c, ↓xofC, ↓xite, ↓xitel, ↓xiter, ↓xmax, ↓xmin, ↓xabs, ↓xabsl,
    ↓xg, ↓xgR, ↓xgO, ↓oR, ↓xald, ↓xzld, ↓xpld, ↓xlen, ↓xstr, ↓xinst, ↓cNot, ↓cAnd, ↓cOr, ↓cEq, ↓cLt, ↓cGt, ↓cEq0, ↓cLt0, ↓cGt0, ↓cEqL, ↓cLtL, ↓cGtL, ↓cEqO,
    ↓kI, ↓kL, ↓kR, ↓kV, ↓kS, ↓kD, ↓kP, ↓kT, ↓CALL_t, ↓vI, ↓vL, ↓vR, ↓aN, ↓aC, aenv_i, aenv_l, aenv_r, aenv_0, List.replicate, Nat.reduceSub, Nat.reduceAdd, eset2, kill, List.set_cons_zero, List.set_cons_succ, List.set_nil, List.getElem?_cons_zero, List.getElem?_cons_succ, List.getElem?_nil, List.mem_cons, List.not_mem_nil, or_false, or_true, true_and, and_true, true_or, false_or, false_and, and_false, not_false_eq_true, not_true_eq_false, forall_const, false_imp_iff, imp_false, true_imp_iff, if_true, if_false, implies_true, reduceIte, reduceCtorEq,
    ↓onO_M, ↓onI_M1, ↓onI_M2, ↓onI_M3, ↓onI_M4, ↓onZ_M5, ↓onI_M6, ↓onI_M7, ↓onI_M8, ↓onI_M9, ↓onI_M10, ↓onI_M11, ↓fR_m1, ↓fR_m2, ↓fR_m3, ↓fR_m10, ↓fR_m11, ↓fR_m13, ↓fR_m14, ↓fR_m15, ↓fR_m16, ↓fR_m18, ↓fR_m19, ↓fI_m0, ↓fI_m4, ↓fI_m5, ↓fI_m6, ↓fI_m7, ↓fI_m8, ↓fI_m9, ↓fI_m12, ↓fI_m17, ↓fI_m20, ↓fI_m21, ↓fI_m22, ↓fI_m23,
    MHu_0, MHu_1, MHu_2, MHu_3, MHu_4, MHu_5, MHu_6, MHu_7, MHu_8, MHu_9, MHu_10, MHu_11, mfs_s4, mfs_s5, mfs_s6, mfs_s7, mfs_s8, mfs_s9, mfs_s12, mfs_s17, mfs_s20, mfs_s21, mfs_s22, mfs_s23, mfs_len, Nat.reduceLT, nI_add, nI_mulN, lit32, nI_clamp, vp_in_nI, nI_ltI, nI_eq, nI_leI, Nat.reduceMul, Nat.zero_add, Nat.add_zero, PH, pI_6, pI_8, pI_9, pI_5, pI_7, pIu_6, pIu8_t, pIu8_f, pIu_9, bI_ne]
    refine t_must (by omega) hi7 he hq' ?_
    simp (disch := omega) only [↓sSeq, ↓sI_f, ↓sL_f, ↓sR_f, ↓sInc_f, fE_c, eset_0, eset_1i, eset_1r, eset_1n, eset_1l, eset_ss, ↓sIf, ↓sBrk, ↓sCnt, ↓sRetI, ↓sRetL, ↓sRetR, ↓sRet, ↓sRetZ, ↓sSkip, ↓sSw, ↓sK, ↓sPop, ↓sFor_t, ↓sast, ↓sastC, ↓szst, ↓spst, ↓sput, ↓sputZ, ↓sputR, ↓sputN, ↓sputC, ↓sCopy,
    ↓xi, ↓xl, ↓xr, ↓xc, ↓xcl, ↓xadd, ↓xsub, ↓xmul, ↓xdiv, ↓xrem, ↓xand, ↓xor, ↓xxor, ↓xshl, ↓xshr, ↓xneg, ↓xaddl, ↓xsubl, ↓xmull, ↓xdivl, ↓xreml, ↓xnegl, ↓xi2l, ↓xi2c, ↓xofC, ↓xite, ↓xitel, ↓xiter, ↓xmax, ↓xmin, ↓xabs, ↓xabsl,
    ↓xg, ↓xgR, ↓xgO, ↓oR, ↓xald, ↓xzld, ↓xpld, ↓xlen, ↓xstr, ↓xinst, ↓cNot, ↓cAnd, ↓cOr, ↓cEq, ↓cLt, ↓cGt, ↓cEq0, ↓cLt0, ↓cGt0, ↓cEqL, ↓cLtL, ↓cGtL, ↓cEqO,
    ↓kI, ↓kL, ↓kR, ↓kV, ↓kS, ↓kD, ↓kP, ↓kT, ↓CALL_t, ↓vI, ↓vL, ↓vR, ↓aN, ↓aC, aenv_i, aenv_l, aenv_r, aenv_0, List.replicate, Nat.reduceSub, Nat.reduceAdd, eset2, kill, List.set_cons_zero, List.set_cons_succ, List.set_nil, List.getElem?_cons_zero, List.getElem?_cons_succ, List.getElem?_nil, List.mem_cons, List.not_mem_nil, or_false, or_true, true_and, and_true, true_or, false_or, false_and, and_false, not_false_eq_true, not_true_eq_false, forall_const, false_imp_iff, imp_false, true_imp_iff, if_true, if_false, implies_true, reduceIte, reduceCtorEq, nI_add, nI_mulN, lit32, nI_clamp, vp_in_nI, nI_ltI, nI_eq, nI_leI, Nat.reduceMul, Nat.zero_add, Nat.add_zero]
    exact hP (m - 1) _ _ (by omega) ⟨j + 1, _, by omega, (pMust_ok (hl2 x (List.mem_of_getElem? hxj))).2.1 hq', hp, rfl, rfl⟩
  · have : j = l.length := by omega
    subst this
    rw [List.drop_length] at hp
    have hp : pSpell (tape S) e l q = q' := hp
    rw [hp] at hK
    exact hK
end PARSE2
