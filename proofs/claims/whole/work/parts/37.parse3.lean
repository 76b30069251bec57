section PARSE3
variable {X : WX} {d : Nat} {h : HM} {i : Nat → Int32} {S I F B T : Nat → Int32} {r : Nat → Nat → Int32} {K : Option Value → HM → Prop} {a e o : Nat}
theorem pLoop_no {c : Nat → Int32} {ch st : Int32} {f : PSt → PSt} {q : PSt} (h : ¬ (q.2.1 = false ∧ pHere c e q.1 = ch)) : ∀ {n : Nat}, pLoop c e ch st f n q = q
  | 0 => rfl
  | n + 1 => if_neg h
theorem t_every {f : PSt → PSt} {C : Bool → Prop} {D : Nat} (hf : ∀ q, pOK e q (f q)) (hC : ∀ q : PSt, C q.2.1 → C (f q).2.1) (H : ∀ d', D ≤ d' → ∀ (q : PSt) (K : Option Value → HM → Prop), q.1 ≤ e → q.2.2.length ≤ q.1 → C q.2.1 → K none (PH X h i S I F B T r a o (f q)) → CALL X M_Mod_factor d' [.ref (mB X)] (PH X h i S I F B T r a o q) K) (hd : D + 1 ≤ d) (hd2 : 3 ≤ d) (ha : a < 5) (hi5 : i 5 = nI a) (hi7 : i 7 = nI e) (he : e ≤ 100) {q : PSt} (hq : q.1 ≤ e) (hl : q.2.2.length ≤ q.1) (hc : C q.2.1) (hK : K none (PH X h i S I F B T r a o (pEvery (tape S) e f q))) : CALL X M_Mod_every d [.ref (mB X)] (PH X h i S I F B T r a o q) K := by
  have hfq := hf q
  obtain ⟨d, rfl⟩ : ∃ e, d = e + 1 := ⟨d - 1, by omega⟩
  refine call_of (by decide +kernel) (by decide) (F_Mod_every X d) (Nat.le_of_ble_eq_true rfl) ?_
  intro g
  simp (disch := omega) only [↓sSeq, ↓sI_f, ↓sL_f, ↓sR_f, ↓sInc_f, fE_c, eset_0, eset_1i, eset_1r, eset_1n, eset_1l, eset_ss, ↓sIf, ↓sBrk, ↓sCnt, ↓sRetI, ↓sRetL, ↓sRetR, ↓sRet, ↓sRetZ, ↓sSkip, ↓sSw, ↓sK, ↓sPop, ↓sFor_t, ↓sast, ↓sastC, ↓szst, ↓spst, ↓sput, ↓sputZ, ↓sputR, ↓sputN, ↓sputC, ↓sCopy,
    ↓xi, ↓xl, ↓xr, ↓xc, ↓xcl, ↓xadd, ↓xsub, ↓xmul, ↓xdiv, ↓xrem, ↓xand, ↓xor, ↓xxor, ↓xshl, ↓xshr, ↓xneg, ↓xaddl, ↓xsubl, ↓xmull, ↓xdivl, ↓xreml, ↓xnegl, ↓xi2l, ↓xi2c, ↓xofC, ↓xite, ↓xitel, ↓xiter, ↓xmax, ↓xmin, ↓xabs, ↓xabsl,
    ↓xg, ↓xgR, ↓xgO, ↓oR, ↓xald, ↓xzld, ↓xpld, ↓xlen, ↓xstr, ↓xinst, ↓cNot, ↓cAnd, ↓cOr, ↓cEq, ↓cLt, ↓cGt, ↓cEq0, ↓cLt0, ↓cGt0, ↓cEqL, ↓cLtL, ↓cGtL, ↓cEqO,
    ↓kI, ↓kL, ↓kR, ↓kV, ↓kS, ↓kD, ↓kP, ↓kT, ↓CALL_t, ↓vI, ↓vL, ↓vR, ↓aN, ↓aC, aenv_i, aenv_l, aenv_r, aenv_0, List.replicate, Nat.reduceSub, Nat.reduceAdd, eset2, kill, List.set_cons_zero, List.set_cons_succ, List.set_nil, List.getElem?_cons_zero, List.getElem?_cons_succ, List.getElem?_nil, List.mem_cons, List.not_mem_nil, or_false, or_true, true_and, and_true, true_or, false_or, false_and, and_false, not_false_eq_true, not_true_eq_false, forall_const, false_imp_iff, imp_false, true_imp_iff, if_true, if_false, implies_true, reduceIte, reduceCtorEq,
    ↓onO_M, ↓onI_M1, ↓onI_M2, ↓onI_M3, ↓onI_M4, ↓onZ_M5, ↓onI_M6, ↓onI_M7, ↓onI_M8, ↓onI_M9, ↓onI_M10, ↓onI_M11, ↓fR_m1, ↓fR_m2, ↓fR_m3, ↓fR_m10, ↓fR_m11, ↓fR_m13, ↓fR_m14, ↓fR_m15, ↓fR_m16, ↓fR_m18, ↓fR_m19, ↓fI_m0, ↓fI_m4, ↓fI_m5, ↓fI_m6, ↓fI_m7, ↓fI_m8, ↓fI_m9, ↓fI_m12, ↓fI_m17, ↓fI_m20, ↓fI_m21, ↓fI_m22, ↓fI_m23,
    MHu_0, MHu_1, MHu_2, MHu_3, MHu_4, MHu_5, MHu_6, MHu_7, MHu_8, MHu_9, MHu_10, MHu_11, mfs_s4, mfs_s5, mfs_s6, mfs_s7, mfs_s8, mfs_s9, mfs_s12, mfs_s17, mfs_s20, mfs_s21, mfs_s22, mfs_s23, mfs_len, Nat.reduceLT, nI_add, nI_mulN, lit32, nI_clamp, vp_in_nI, nI_ltI, nI_eq, nI_leI, Nat.reduceMul, Nat.zero_add, Nat.add_zero, B_Mod_every, M_Mod_every, PH]
  refine H _ (by omega) q _ hq hl hc ?_
  simp (disch := omega) only [↓sSeq, ↓sI_f, ↓sL_f, ↓sR_f, ↓sInc_f, fE_c, eset_0, eset_1i, eset_1r, eset_1n, eset_1l, eset_ss, ↓sIf, ↓sBrk, ↓sCnt, ↓sRetI, ↓sRetL, ↓sRetR, ↓sRet, ↓sRetZ, ↓sSkip, ↓sSw, ↓sK, ↓sPop, ↓sFor_t, ↓sast, ↓sastC, ↓szst, ↓spst, ↓sput, ↓sputZ, ↓sputR, ↓sputN, ↓sputC, ↓sCopy,
    ↓xi, ↓xl, ↓xr, ↓xc, ↓xcl, ↓xadd, ↓xsub, ↓xmul, ↓xdiv, ↓xrem, ↓xand, ↓xor, ↓xxor, ↓xshl, ↓xshr, ↓xneg, ↓xaddl, ↓xsubl, ↓xmull, ↓xdivl, ↓xreml, ↓xnegl, ↓xi2l, ↓xi2c, ↓xofC, ↓xite, ↓xitel, ↓xiter, ↓xmax, ↓xmin, ↓xabs, ↓xabsl,
    ↓xg, ↓xgR, ↓xgO, ↓oR, ↓xald, ↓xzld, ↓xpld, ↓xlen, ↓xstr, ↓xinst, ↓cNot, ↓cAnd, ↓cOr, ↓cEq, ↓cLt, ↓cGt, ↓cEq0, ↓cLt0, ↓cGt0, ↓cEqL, ↓cLtL, ↓cGtL, ↓cEqO,
    ↓kI, ↓kL, ↓kR, ↓kV, ↓kS, ↓kD, ↓kP, ↓kT, ↓CALL_t, ↓vI, ↓vL, ↓vR, ↓aN, ↓aC, aenv_i, aenv_l, aenv_r, aenv_0, List.replicate, Nat.reduceSub, Nat.reduceAdd, eset2, kill, List.set_cons_zero, List.set_cons_succ, List.set_nil, List.getElem?_cons_zero, List.getElem?_cons_succ, List.getElem?_nil, List.mem_cons, List.not_mem_nil, or_false, or_true, true_and, and_true, true_or, false_or, false_and, and_false, not_false_eq_true, not_true_eq_false, forall_const, false_imp_iff, imp_false, true_imp_iff, if_true, if_false, implies_true, reduceIte, reduceCtorEq, nI_add, nI_mulN, lit32, nI_clamp, vp_in_nI, nI_ltI, nI_eq, nI_leI, Nat.reduceMul, Nat.zero_add, Nat.add_zero]
  refine for_rule (fun n env σ => ∃ q' : PSt, q'.1 ≤ e ∧ q'.2.2.length ≤ q'.1 ∧ C q'.2.1 ∧ (q'.2.1 = true ∨ e ≤ q'.1 + n) ∧ pLoop (tape S) e (nI 38) (-nI 2) f n q' = pEvery (tape S) e f q ∧ env = [some (.ref (mB X))] ∧ σ = (PH X h i S I F B T r a o q', g)) 101 ⟨f q, hfq.2.1 hq, by have := hfq.2.2; omega, hC _ hc, Or.inr (by omega), rfl, rfl, rfl⟩ ?_
  rintro n env σ P ⟨⟨s, w, L⟩, hs, hL, hw, hn, hp, rfl, rfl⟩ hP
  have hs : s ≤ e := hs
  have hL : L.length ≤ s := hL
  have hw : C w := hw
  have hn : w = true ∨ e ≤ s + n := hn
  simp (disch := omega) only [↓sSeq, ↓sI_f, ↓sL_f, ↓sR_f, ↓sInc_f, fE_c, eset_0, eset_1i, eset_1r, eset_1n, eset_1l, eset_ss, ↓sIf, ↓sBrk, ↓sCnt, ↓sRetI, ↓sRetL, ↓sRetR, ↓sRet, ↓sRetZ, ↓sSkip, ↓sSw, ↓sK, ↓sPop, ↓sFor_t, ↓sast, ↓sastC, ↓szst, ↓spst, ↓sput, ↓sputZ, ↓sputR, ↓sputN, ↓sputC, ↓sCopy,
    ↓xi, ↓xl, ↓xr, ↓xc, ↓xcl, ↓xadd, ↓xsub, ↓xmul, ↓xdiv, ↓xrem, ↓xand, ↓xor, ↓xxor, ↓xshl, ↓xshr, ↓xneg, ↓xaddl, ↓xsubl, ↓xmull, ↓xdivl, ↓xreml, ↓xnegl, ↓xi2l, ↓xi2c, ↓xofC, ↓xite, ↓xitel, ↓xiter, ↓xmax, ↓xmin, ↓xabs, ↓xabsl,
    ↓xg, ↓xgR, ↓xgO, ↓oR, ↓xald, ↓xzld, ↓xpld, ↓xlen, ↓xstr, ↓xinst, ↓cNot, ↓cAnd, ↓cOr, ↓cEq, ↓cLt, ↓cGt, ↓cEq0, ↓cLt0, ↓cGt0, ↓cEqL, ↓cLtL, ↓cGtL, ↓cEqO,
    ↓kI, ↓kL, ↓kR, ↓kV, ↓kS, ↓kD, ↓kP, ↓kT, ↓CALL_t, ↓vI, ↓vL, ↓vR, ↓aN, ↓aC, aenv_i, aenv_l, aenv_r, aenv_0, List.replicate, Nat.reduceSub, Nat.reduceAdd, eset2, kill, List.set_cons_zero, List.set_cons_succ, List.set_nil, List.getElem?_cons_zero, List.getElem?_cons_succ, List.getElem?_nil, List.mem_cons, List.not_mem_nil, or_false, or_true, true_and, and_true, true_or, false_or, false_and, and_false, not_false_eq_true, not_true_eq_false, forall_const, false_imp_iff, imp_false, true_imp_iff, if_true, if_false, implies_true, reduceIte, reduceCtorEq,
    ↓onO_M, ↓onI_M1, ↓onI_M2, ↓onI_M3, ↓onI_M4, ↓onZ_M5, ↓onI_M6, ↓onI_M7, ↓onI_M8, ↓onI_M9, ↓onI_M10, ↓onI_M11, ↓fR_m1, ↓fR_m2, ↓fR_m3, ↓fR_m10, ↓fR_m11, ↓fR_m13, ↓fR_m14, ↓fR_m15, ↓fR_m16, ↓fR_m18, ↓fR_m19, ↓fI_m0, ↓fI_m4, ↓fI_m5, ↓fI_m6, ↓fI_m7, ↓fI_m8, ↓fI_m9, ↓fI_m12, ↓fI_m17, ↓fI_m20, ↓fI_m21, ↓fI_m22, ↓fI_m23,
    MHu_0, MHu_1, MHu_2, MHu_3, MHu_4, MHu_5, MHu_6, MHu_7, MHu_8, MHu_9, MHu_10, MHu_11, mfs_s4, mfs_s5, mfs_s6, mfs_s7, mfs_s8, mfs_s9, mfs_s12, mfs_s17, mfs_s20, mfs_s21, mfs_s22, mfs_s23, mfs_len, Nat.reduceLT, nI_add, nI_mulN, lit32, nI_clamp, vp_in_nI, nI_ltI, nI_eq, nI_leI, Nat.reduceMul, Nat.zero_add, Nat.add_zero, PH, pI_6, pI_8, pI_9, pI_5, pI_7, pIu_6, pIu8_t, pIu8_f, pIu_9, bI_ne]
  refine ⟨fun z => ?_, fun z => ?_⟩
  · subst z
    refine t_here (q := (s, (false, L))) (by omega) hi7 he hs ?_
    simp (disch := omega) only [↓sSeq, ↓sI_f, ↓sL_f, ↓sR_f, ↓sInc_f, fE_c, eset_0, eset_1i, eset_1r, eset_1n, eset_1l, eset_ss, ↓sIf, ↓sBrk, ↓sCnt, ↓sRetI, ↓sRetL, ↓sRetR, ↓sRet, ↓sRetZ, ↓sSkip, ↓sSw, ↓sK, ↓sPop, ↓sFor_t, ↓sast, ↓sastC, ↓szst, ↓spst, ↓sput, ↓sputZ, ↓sputR, ↓sputN, ↓sputC, ↓sCopy,
    ↓xi, ↓xl, ↓xr, ↓xc, ↓xcl, ↓xadd, ↓xsub, ↓xmul, ↓xdiv, ↓xrem, ↓xand, ↓xor, ↓xxor, ↓xshl, ↓xshr, ↓xneg, ↓xaddl, ↓xsubl, ↓xmull, ↓xdivl, ↓xreml, ↓xnegl, ↓xi2l, ↓xi2c, ↓xofC, ↓xite, ↓xitel, ↓xiter, ↓xmax, ↓xmin, ↓xabs, ↓xabsl,
    ↓xg, ↓xgR, ↓xgO, ↓oR, ↓xald, ↓xzld, ↓xpld, ↓xlen, ↓xstr, ↓xinst, ↓cNot, ↓cAnd, ↓cOr, ↓cEq, ↓cLt, ↓cGt, ↓cEq0, ↓cLt0, ↓cGt0, ↓cEqL, ↓cLtL, ↓cGtL, ↓cEqO,
    ↓kI, ↓kL, ↓kR, ↓kV, ↓kS, ↓kD, ↓kP, ↓kT, ↓CALL_t, ↓vI, ↓vL, ↓vR, ↓aN, ↓aC, aenv_i, aenv_l, aenv_r, aenv_0, List.replicate, Nat.reduceSub, Nat.reduceAdd, eset2, kill, List.set_cons_zero, List.set_cons_succ, List.set_nil, List.getElem?_cons_zero, List.getElem?_cons_succ, List.getElem?_nil, List.mem_cons, List.not_mem_nil, or_false, or_true, true_and, and_true, true_or, false_or, false_and, and_false, not_false_eq_true, not_true_eq_false, forall_const, false_imp_iff, imp_false, true_imp_iff, if_true, if_false, implies_true, reduceIte, reduceCtorEq,
    ↓onO_M, ↓onI_M1, ↓onI_M2, ↓onI_M3, ↓onI_M4, ↓onZ_M5, ↓onI_M6, ↓onI_M7, ↓onI_M8, ↓onI_M9, ↓onI_M10, ↓onI_M11, ↓fR_m1, ↓fR_m2, ↓fR_m3, ↓fR_m10, ↓fR_m11, ↓fR_m13, ↓fR_m14, ↓fR_m15, ↓fR_m16, ↓fR_m18, ↓fR_m19, ↓fI_m0, ↓fI_m4, ↓fI_m5, ↓fI_m6, ↓fI_m7, ↓fI_m8, ↓fI_m9, ↓fI_m12, ↓fI_m17, ↓fI_m20, ↓fI_m21, ↓fI_m22, ↓fI_m23,
    MHu_0, MHu_1, MHu_2, MHu_3, MHu_4, MHu_5, MHu_6, MHu_7, MHu_8, MHu_9, MHu_10, MHu_11, mfs_s4, mfs_s5, mfs_s6, mfs_s7, mfs_s8, mfs_s9, mfs_s12, mfs_s17, mfs_s20, mfs_s21, mfs_s22, mfs_s23, mfs_len, Nat.reduceLT, nI_add, nI_mulN, lit32, nI_clamp, vp_in_nI, nI_ltI, nI_eq, nI_leI, Nat.reduceMul, Nat.zero_add, Nat.add_zero, PH, pI_6, pI_8, pI_9, pI_5, pI_7, pIu_6, pIu8_t, pIu8_f, pIu_9, bI_ne]
    refine ⟨fun y => ?_, fun y => ?_⟩
    · have hlt := pHere_lt y (by decide)
      have hn : e ≤ s + n := hn.resolve_left (by decide)
      obtain ⟨n, rfl⟩ : ∃ m, n = m + 1 := ⟨n - 1, by omega⟩
      have hp : (if (false = false ∧ pHere (tape S) e s = nI 38) then pLoop (tape S) e (nI 38) (-nI 2) f n (pEmit (-nI 2) (f (s + 1, (false, L)))) else (s, (false, L))) = _ := hp
      rw [if_pos ⟨rfl, y⟩] at hp
      have hf2 := hf (s + 1, (false, L))
      have hf3 := hf2.2.1 hlt
      have hf4 := hf2.2.2
      have hf5 := hf2.1
      dsimp only at hf3 hf4 hf5
      simp (disch := omega) only [↓sSeq, ↓sI_f, ↓sL_f, ↓sR_f, ↓sInc_f, fE_c, eset_0, eset_1i, eset_1r, eset_1n, eset_1l, eset_ss, ↓sIf, ↓sBrk, ↓sCnt, ↓sRetI, ↓sRetL, ↓sRetR, ↓sRet, ↓sRetZ, ↓sSkip, ↓sSw, ↓sK, ↓sPop, ↓sFor_t, ↓sast, ↓sastC, ↓szst, ↓spst, ↓sput, ↓sputZ, ↓sputR, ↓sputN, ↓sputC, ↓sCopy,
    ↓xi, ↓xl, ↓xr, ↓xc, ↓xcl, ↓xadd, ↓xsub, ↓xmul, ↓xdiv, ↓xrem, ↓xand, ↓xor, ↓xxor, ↓xshl, ↓xshr, ↓xneg, ↓xaddl, ↓xsubl, ↓xmull, ↓xdivl, ↓xreml, ↓xnegl, ↓xi2l, ↓xi2c, ↓xofC, ↓xite, ↓xitel, ↓xiter, ↓xmax, ↓xmin, ↓xabs, ↓xabsl,
    ↓xg, ↓xgR, ↓xgO, ↓oR, ↓xald, ↓xzld, ↓xpld, ↓xlen, ↓xstr, ↓xinst, ↓cNot, ↓cAnd, ↓cOr, ↓cEq, ↓cLt, ↓cGt, ↓cEq0, ↓cLt0, ↓cGt0, ↓cEqL, ↓cLtL, ↓cGtL, ↓cEqO,
    ↓kI, ↓kL, ↓kR, ↓kV, ↓kS, ↓kD, ↓kP, ↓kT, ↓CALL_t, ↓vI, ↓vL, ↓vR, ↓aN, ↓aC, aenv_i, aenv_l, aenv_r, aenv_0, List.replicate, Nat.reduceSub, Nat.reduceAdd, eset2, kill, List.set_cons_zero, List.set_cons_succ, List.set_nil, List.getElem?_cons_zero, List.getElem?_cons_succ, List.getElem?_nil, List.mem_cons, List.not_mem_nil, or_false, or_true, true_and, and_true, true_or, false_or, false_and, and_false, not_false_eq_true, not_true_eq_false, forall_const, false_imp_iff, imp_false, true_imp_iff, if_true, if_false, implies_true, reduceIte, reduceCtorEq,
    ↓onO_M, ↓onI_M1, ↓onI_M2, ↓onI_M3, ↓onI_M4, ↓onZ_M5, ↓onI_M6, ↓onI_M7, ↓onI_M8, ↓onI_M9, ↓onI_M10, ↓onI_M11, ↓fR_m1, ↓fR_m2, ↓fR_m3, ↓fR_m10, ↓fR_m11, ↓fR_m13, ↓fR_m14, ↓fR_m15, ↓fR_m16, ↓fR_m18, ↓fR_m19, ↓fI_m0, ↓fI_m4, ↓fI_m5, ↓fI_m6, ↓fI_m7, ↓fI_m8, ↓fI_m9, ↓fI_m12, ↓fI_m17, ↓fI_m20, ↓fI_m21, ↓fI_m22, ↓fI_m23,
    MHu_0, MHu_1, MHu_2, MHu_3, MHu_4, MHu_5, MHu_6, MHu_7, MHu_8, MHu_9, MHu_10, MHu_11, mfs_s4, mfs_s5, mfs_s6, mfs_s7, mfs_s8, mfs_s9, mfs_s12, mfs_s17, mfs_s20, mfs_s21, mfs_s22, mfs_s23, mfs_len, Nat.reduceLT, nI_add, nI_mulN, lit32, nI_clamp, vp_in_nI, nI_ltI, nI_eq, nI_leI, Nat.reduceMul, Nat.zero_add, Nat.add_zero, PH, pI_6, pI_8, pI_9, pI_5, pI_7, pIu_6, pIu8_t, pIu8_f, pIu_9, bI_ne, L_Mod_every_1]
      refine H _ (by omega) (s + 1, (false, L)) _ hlt (by dsimp only; omega) hw ?_
      simp (disch := omega) only [↓sSeq, ↓sI_f, ↓sL_f, ↓sR_f, ↓sInc_f, fE_c, eset_0, eset_1i, eset_1r, eset_1n, eset_1l, eset_ss, ↓sIf, ↓sBrk, ↓sCnt, ↓sRetI, ↓sRetL, ↓sRetR, ↓sRet, ↓sRetZ, ↓sSkip, ↓sSw, ↓sK, ↓sPop, ↓sFor_t, ↓sast, ↓sastC, ↓szst, ↓spst, ↓sput, ↓sputZ, ↓sputR, ↓sputN, ↓sputC, ↓sCopy,
    ↓xi, ↓xl, ↓xr, ↓xc, ↓xcl, ↓xadd, ↓xsub, ↓xmul, ↓xdiv, ↓xrem, ↓xand, ↓xor, ↓xxor, ↓xshl, ↓xshr, ↓xneg, ↓xaddl, ↓xsubl, ↓xmull, ↓xdivl, ↓xreml, ↓xnegl, ↓xi2l, ↓xi2c, ↓xofC, ↓xite, ↓xitel, ↓xiter, ↓xmax, ↓xmin, ↓xabs, ↓xabsl,
    ↓xg, ↓xgR, ↓xgO, ↓oR, ↓xald, ↓xzld, ↓xpld, ↓xlen, ↓xstr, ↓xinst, ↓cNot, ↓cAnd, ↓cOr, ↓cEq, ↓cLt, ↓cGt, ↓cEq0, ↓cLt0, ↓cGt0, ↓cEqL, ↓cLtL, ↓cGtL, ↓cEqO,
    ↓kI, ↓kL, ↓kR, ↓kV, ↓kS, ↓kD, ↓kP, ↓kT, ↓CALL_t, ↓vI, ↓vL, ↓vR, ↓aN, ↓aC, aenv_i, aenv_l, aenv_r, aenv_0, List.replicate, Nat.reduceSub, Nat.reduceAdd, eset2, kill, List.set_cons_zero, List.set_cons_succ, List.set_nil, List.getElem?_cons_zero, List.getElem?_cons_succ, List.getElem?_nil, List.mem_cons, List.not_mem_nil, or_false, or_true, true_and, and_true, true_or, false_or, false_and, and_false, not_false_eq_true, not_true_eq_false, forall_const, false_imp_iff, imp_false, true_imp_iff, if_true, if_false, implies_true, reduceIte, reduceCtorEq,
    ↓onO_M, ↓onI_M1, ↓onI_M2, ↓onI_M3, ↓onI_M4, ↓onZ_M5, ↓onI_M6, ↓onI_M7, ↓onI_M8, ↓onI_M9, ↓onI_M10, ↓onI_M11, ↓fR_m1, ↓fR_m2, ↓fR_m3, ↓fR_m10, ↓fR_m11, ↓fR_m13, ↓fR_m14, ↓fR_m15, ↓fR_m16, ↓fR_m18, ↓fR_m19, ↓fI_m0, ↓fI_m4, ↓fI_m5, ↓fI_m6, ↓fI_m7, ↓fI_m8, ↓fI_m9, ↓fI_m12, ↓fI_m17, ↓fI_m20, ↓fI_m21, ↓fI_m22, ↓fI_m23,
    MHu_0, MHu_1, MHu_2, MHu_3, MHu_4, MHu_5, MHu_6, MHu_7, MHu_8, MHu_9, MHu_10, MHu_11, mfs_s4, mfs_s5, mfs_s6, mfs_s7, mfs_s8, mfs_s9, mfs_s12, mfs_s17, mfs_s20, mfs_s21, mfs_s22, mfs_s23, mfs_len, Nat.reduceLT, nI_add, nI_mulN, lit32, nI_clamp, vp_in_nI, nI_ltI, nI_eq, nI_leI, Nat.reduceMul, Nat.zero_add, Nat.add_zero, PH, pI_6, pI_8, pI_9, pI_5, pI_7, pIu_6, pIu8_t, pIu8_f, pIu_9, bI_ne]
      refine t_emits (by omega) ha hi5 (by omega) ?_
      simp (disch := omega) only [↓sSeq, ↓sI_f, ↓sL_f, ↓sR_f, ↓sInc_f, fE_c, eset_0, eset_1i, eset_1r, eset_1n, eset_1l, eset_ss, ↓sIf, ↓sBrk, ↓sCnt, ↓sRetI, ↓sRetL, ↓sRetR, ↓sRet, ↓sRetZ, ↓sSkip, ↓sSw, ↓sK, ↓sPop, ↓sFor_t, ↓sast, ↓sastC, ↓szst, ↓spst, ↓sput, ↓sputZ, ↓sputR, ↓sputN, ↓sputC, ↓sCopy,
    ↓xi, ↓xl, ↓xr, ↓xc, ↓xcl, ↓xadd, ↓xsub, ↓xmul, ↓xdiv, ↓xrem, ↓xand, ↓xor, ↓xxor, ↓xshl, ↓xshr, ↓xneg, ↓xaddl, ↓xsubl, ↓xmull, ↓xdivl, ↓xreml, ↓xnegl, ↓xi2l, ↓xi2c, ↓xofC, ↓xite, ↓xitel, ↓xiter, ↓xmax, ↓xmin, ↓xabs, ↓xabsl,
    ↓xg, ↓xgR, ↓xgO, ↓oR, ↓xald, ↓xzld, ↓xpld, ↓xlen, ↓xstr, ↓xinst, ↓cNot, ↓cAnd, ↓cOr, ↓cEq, ↓cLt, ↓cGt, ↓cEq0, ↓cLt0, ↓cGt0, ↓cEqL, ↓cLtL, ↓cGtL, ↓cEqO,
    ↓kI, ↓kL, ↓kR, ↓kV, ↓kS, ↓kD, ↓kP, ↓kT, ↓CALL_t, ↓vI, ↓vL, ↓vR, ↓aN, ↓aC, aenv_i, aenv_l, aenv_r, aenv_0, List.replicate, Nat.reduceSub, Nat.reduceAdd, eset2, kill, List.set_cons_zero, List.set_cons_succ, List.set_nil, List.getElem?_cons_zero, List.getElem?_cons_succ, List.getElem?_nil, List.mem_cons, List.not_mem_nil, or_false, or_true, true_and, and_true, true_or, false_or, false_and, and_false, not_false_eq_true, not_true_eq_false, forall_const, false_imp_iff, imp_false, true_imp_iff, if_true, if_false, implies_true, reduceIte, reduceCtorEq, nI_add, nI_mulN, lit32, nI_clamp, vp_in_nI, nI_ltI, nI_eq, nI_leI, Nat.reduceMul, Nat.zero_add, Nat.add_zero]
      have hEk := pEmit_ok (e := e) (q := (s, (false, L))) (x := -nI 2) hf2 hlt
      refine hP n _ _ rfl ⟨_, hEk.2.1 hs, by have := hEk.2.2; dsimp only at this; omega, ?_, ?_, hp, rfl, rfl⟩
      · have : (pEmit (-nI 2) (f (s + 1, (false, L)))).2.1 = (f (s + 1, (false, L))).2.1 := by unfold pEmit; split <;> rfl
        rw [this]; exact hC _ hw
      · right
        have : (pEmit (-nI 2) (f (s + 1, (false, L)))).1 = (f (s + 1, (false, L))).1 := by unfold pEmit; split <;> rfl
        rw [this]; omega
    · have hp2 : pLoop (tape S) e (nI 38) (-nI 2) f n (s, (false, L)) = (s, (false, L)) := pLoop_no (fun z => y z.2)
      rw [hp2] at hp
      rw [← hp] at hK
      exact hK
  · have hp2 : pLoop (tape S) e (nI 38) (-nI 2) f n (s, (w, L)) = (s, (w, L)) := pLoop_no (fun y => z y.1)
    rw [hp2] at hp
    rw [← hp] at hK
    exact hK
theorem t_some {F0 f : PSt → PSt} {C : Bool → Prop} {D : Nat} (hF : f = pEvery (tape S) e F0) (hf : ∀ q, pOK e q (f q)) (hC : ∀ q : PSt, C q.2.1 → C (f q).2.1) (H : ∀ d', D ≤ d' → ∀ (q : PSt) (K : Option Value → HM → Prop), q.1 ≤ e → q.2.2.length ≤ q.1 → C q.2.1 → K none (PH X h i S I F B T r a o (f q)) → CALL X M_Mod_every d' [.ref (mB X)] (PH X h i S I F B T r a o q) K) (hd : D + 1 ≤ d) (hd2 : 3 ≤ d) (ha : a < 5) (hi5 : i 5 = nI a) (hi7 : i 7 = nI e) (he : e ≤ 100) {q : PSt} (hq : q.1 ≤ e) (hl : q.2.2.length ≤ q.1) (hc : C q.2.1) (hK : K none (PH X h i S I F B T r a o (pSome (tape S) e F0 q))) : CALL X M_Mod_some d [.ref (mB X)] (PH X h i S I F B T r a o q) K := by
  have hfq := hf q
  obtain ⟨d, rfl⟩ : ∃ e, d = e + 1 := ⟨d - 1, by omega⟩
  refine call_of (by decide +kernel) (by decide) (F_Mod_some X d) (Nat.le_of_ble_eq_true rfl) ?_
  intro g
  simp (disch := omega) only [↓sSeq, ↓sI_f, ↓sL_f, ↓sR_f, ↓sInc_f, fE_c, eset_0, eset_1i, eset_1r, eset_1n, eset_1l, eset_ss, ↓sIf, ↓sBrk, ↓sCnt, ↓sRetI, ↓sRetL, ↓sRetR, ↓sRet, ↓sRetZ, ↓sSkip, ↓sSw, ↓sK, ↓sPop, ↓sFor_t, ↓sast, ↓sastC, ↓szst, ↓spst, ↓sput, ↓sputZ, ↓sputR, ↓sputN, ↓sputC, ↓sCopy,
    ↓xi, ↓xl, ↓xr, ↓xc, ↓xcl, ↓xadd, ↓xsub, ↓xmul, ↓xdiv, ↓xrem, ↓xand, ↓xor, ↓xxor, ↓xshl, ↓xshr, ↓xneg, ↓xaddl, ↓xsubl, ↓xmull, ↓xdivl, ↓xreml, ↓xnegl, ↓xi2l, ↓xi2c, ↓xofC, ↓xite, ↓xitel, ↓xiter, ↓xmax, ↓xmin, ↓xabs, ↓xabsl,
    ↓xg, ↓xgR, ↓xgO, ↓oR, ↓xald, ↓xzld, ↓xpld, ↓xlen, ↓xstr, ↓xinst, ↓cNot, ↓cAnd, ↓cOr, ↓cEq, ↓cLt, ↓cGt, ↓cEq0, ↓cLt0, ↓cGt0, ↓cEqL, ↓cLtL, ↓cGtL, ↓cEqO,
    ↓kI, ↓kL, ↓kR, ↓kV, ↓kS, ↓kD, ↓kP, ↓kT, ↓CALL_t, ↓vI, ↓vL, ↓vR, ↓aN, ↓aC, aenv_i, aenv_l, aenv_r, aenv_0, List.replicate, Nat.reduceSub, Nat.reduceAdd, eset2, kill, List.set_cons_zero, List.set_cons_succ, List.set_nil, List.getElem?_cons_zero, List.getElem?_cons_succ, List.getElem?_nil, List.mem_cons, List.not_mem_nil, or_false, or_true, true_and, and_true, true_or, false_or, false_and, and_false, not_false_eq_true, not_true_eq_false, forall_const, false_imp_iff, imp_false, true_imp_iff, if_true, if_false, implies_true, reduceIte, reduceCtorEq,
    ↓onO_M, ↓onI_M1, ↓onI_M2, ↓onI_M3, ↓onI_M4, ↓onZ_M5, ↓onI_M6, ↓onI_M7, ↓onI_M8, ↓onI_M9, ↓onI_M10, ↓onI_M11, ↓fR_m1, ↓fR_m2, ↓fR_m3, ↓fR_m10, ↓fR_m11, ↓fR_m13, ↓fR_m14, ↓fR_m15, ↓fR_m16, ↓fR_m18, ↓fR_m19, ↓fI_m0, ↓fI_m4, ↓fI_m5, ↓fI_m6, ↓fI_m7, ↓fI_m8, ↓fI_m9, ↓fI_m12, ↓fI_m17, ↓fI_m20, ↓fI_m21, ↓fI_m22, ↓fI_m23,
    MHu_0, MHu_1, MHu_2, MHu_3, MHu_4, MHu_5, MHu_6, MHu_7, MHu_8, MHu_9, MHu_10, MHu_11, mfs_s4, mfs_s5, mfs_s6, mfs_s7, mfs_s8, mfs_s9, mfs_s12, mfs_s17, mfs_s20, mfs_s21, mfs_s22, mfs_s23, mfs_len, Nat.reduceLT, nI_add, nI_mulN, lit32, nI_clamp, vp_in_nI, nI_ltI, nI_eq, nI_leI, Nat.reduceMul, Nat.zero_add, Nat.add_zero, B_Mod_some, M_Mod_some, PH]
  refine H _ (by omega) q _ hq hl hc ?_
  simp (disch := omega) only [↓sSeq, ↓sI_f, ↓sL_f, ↓sR_f, ↓sInc_f, fE_c, eset_0, eset_1i, eset_1r, eset_1n, eset_1l, eset_ss, ↓sIf, ↓sBrk, ↓sCnt, ↓sRetI, ↓sRetL, ↓sRetR, ↓sRet, ↓sRetZ, ↓sSkip, ↓sSw, ↓sK, ↓sPop, ↓sFor_t, ↓sast, ↓sastC, ↓szst, ↓spst, ↓sput, ↓sputZ, ↓sputR, ↓sputN, ↓sputC, ↓sCopy,
    ↓xi, ↓xl, ↓xr, ↓xc, ↓xcl, ↓xadd, ↓xsub, ↓xmul, ↓xdiv, ↓xrem, ↓xand, ↓xor, ↓xxor, ↓xshl, ↓xshr, ↓xneg, ↓xaddl, ↓xsubl, ↓xmull, ↓xdivl, ↓xreml, ↓xnegl, ↓xi2l, ↓xi2c, ↓xofC, ↓xite, ↓xitel, ↓xiter, ↓xmax, ↓xmin, ↓xabs, ↓xabsl,
    ↓xg, ↓xgR, ↓xgO, ↓oR, ↓xald, ↓xzld, ↓xpld, ↓xlen, ↓xstr, ↓xinst, ↓cNot, ↓cAnd, ↓cOr, ↓cEq, ↓cLt, ↓cGt, ↓cEq0, ↓cLt0, ↓cGt0, ↓cEqL, ↓cLtL, ↓cGtL, ↓cEqO,
    ↓kI, ↓kL, ↓kR, ↓kV, ↓kS, ↓kD, ↓kP, ↓kT, ↓CALL_t, ↓vI, ↓vL, ↓vR, ↓aN, ↓aC, aenv_i, aenv_l, aenv_r, aenv_0, List.replicate, Nat.reduceSub, Nat.reduceAdd, eset2, kill, List.set_cons_zero, List.set_cons_succ, List.set_nil, List.getElem?_cons_zero, List.getElem?_cons_succ, List.getElem?_nil, List.mem_cons, List.not_mem_nil, or_false, or_true, true_and, and_true, true_or, false_or, false_and, and_false, not_false_eq_true, not_true_eq_false, forall_const, false_imp_iff, imp_false, true_imp_iff, if_true, if_false, implies_true, reduceIte, reduceCtorEq, nI_add, nI_mulN, lit32, nI_clamp, vp_in_nI, nI_ltI, nI_eq, nI_leI, Nat.reduceMul, Nat.zero_add, Nat.add_zero]
  refine for_rule (fun n env σ => ∃ q' : PSt, q'.1 ≤ e ∧ q'.2.2.length ≤ q'.1 ∧ C q'.2.1 ∧ (q'.2.1 = true ∨ e ≤ q'.1 + n) ∧ pLoop (tape S) e (nI 124) (-nI 3) f n q' = pSome (tape S) e F0 q ∧ env = [some (.ref (mB X))] ∧ σ = (PH X h i S I F B T r a o q', g)) 101 ⟨f q, hfq.2.1 hq, by have := hfq.2.2; omega, hC _ hc, Or.inr (by omega), by rw [hF]; rfl, rfl, rfl⟩ ?_
  rintro n env σ P ⟨⟨s, w, L⟩, hs, hL, hw, hn, hp, rfl, rfl⟩ hP
  have hs : s ≤ e := hs
  have hL : L.length ≤ s := hL
  have hw : C w := hw
  have hn : w = true ∨ e ≤ s + n := hn
  simp (disch := omega) only [↓sSeq, ↓sI_f, ↓sL_f, ↓sR_f, ↓sInc_f, fE_c, eset_0, eset_1i, eset_1r, eset_1n, eset_1l, eset_ss, ↓sIf, ↓sBrk, ↓sCnt, ↓sRetI, ↓sRetL, ↓sRetR, ↓sRet, ↓sRetZ, ↓sSkip, ↓sSw, ↓sK, ↓sPop, ↓sFor_t, ↓sast, ↓sastC, ↓szst, ↓spst, ↓sput, ↓sputZ, ↓sputR, ↓sputN, ↓sputC, ↓sCopy,
    ↓xi, ↓xl, ↓xr, ↓xc, ↓xcl, ↓xadd, ↓xsub, ↓xmul, ↓xdiv, ↓xrem, ↓xand, ↓xor, ↓xxor, ↓xshl, ↓xshr, ↓xneg, ↓xaddl, ↓xsubl, ↓xmull, ↓xdivl, ↓xreml, ↓xnegl, ↓xi2l, ↓xi2c, ↓xofC, ↓xite, ↓xitel, ↓xiter, ↓xmax, ↓xmin, ↓xabs, ↓xabsl,
    ↓xg, ↓xgR, ↓xgO, ↓oR, ↓xald, ↓xzld, ↓xpld, ↓xlen, ↓xstr, ↓xinst, ↓cNot, ↓cAnd, ↓cOr, ↓cEq, ↓cLt, ↓cGt, ↓cEq0, ↓cLt0, ↓cGt0, ↓cEqL, ↓cLtL, ↓cGtL, ↓cEqO,
    ↓kI, ↓kL, ↓kR, ↓kV, ↓kS, ↓kD, ↓kP, ↓kT, ↓CALL_t, ↓vI, ↓vL, ↓vR, ↓aN, ↓aC, aenv_i, aenv_l, aenv_r, aenv_0, List.replicate, Nat.reduceSub, Nat.reduceAdd, eset2, kill, List.set_cons_zero, List.set_cons_succ, List.set_nil, List.getElem?_cons_zero, List.getElem?_cons_succ, List.getElem?_nil, List.mem_cons, List.not_mem_nil, or_false, or_true, true_and, and_true, true_or, false_or, false_and, and_false, not_false_eq_true, not_true_eq_false, forall_const, false_imp_iff, imp_false, true_imp_iff, if_true, if_false, implies_true, reduceIte, reduceCtorEq,
    ↓onO_M, ↓onI_M1, ↓onI_M2, ↓onI_M3, ↓onI_M4, ↓onZ_M5, ↓onI_M6, ↓onI_M7, ↓onI_M8, ↓onI_M9, ↓onI_M10, ↓onI_M11, ↓fR_m1, ↓fR_m2, ↓fR_m3, ↓fR_m10, ↓fR_m11, ↓fR_m13, ↓fR_m14, ↓fR_m15, ↓fR_m16, ↓fR_m18, ↓fR_m19, ↓fI_m0, ↓fI_m4, ↓fI_m5, ↓fI_m6, ↓fI_m7, ↓fI_m8, ↓fI_m9, ↓fI_m12, ↓fI_m17, ↓fI_m20, ↓fI_m21, ↓fI_m22, ↓fI_m23,
    MHu_0, MHu_1, MHu_2, MHu_3, MHu_4, MHu_5, MHu_6, MHu_7, MHu_8, MHu_9, MHu_10, MHu_11, mfs_s4, mfs_s5, mfs_s6, mfs_s7, mfs_s8, mfs_s9, mfs_s12, mfs_s17, mfs_s20, mfs_s21, mfs_s22, mfs_s23, mfs_len, Nat.reduceLT, nI_add, nI_mulN, lit32, nI_clamp, vp_in_nI, nI_ltI, nI_eq, nI_leI, Nat.reduceMul, Nat.zero_add, Nat.add_zero, PH, pI_6, pI_8, pI_9, pI_5, pI_7, pIu_6, pIu8_t, pIu8_f, pIu_9, bI_ne]
  refine ⟨fun z => ?_, fun z => ?_⟩
  · subst z
    refine t_here (q := (s, (false, L))) (by omega) hi7 he hs ?_
    simp (disch := omega) only [↓sSeq, ↓sI_f, ↓sL_f, ↓sR_f, ↓sInc_f, fE_c, eset_0, eset_1i, eset_1r, eset_1n, eset_1l, eset_ss, ↓sIf, ↓sBrk, ↓sCnt, ↓sRetI, ↓sRetL, ↓sRetR, ↓sRet, ↓sRetZ, ↓sSkip, ↓sSw, ↓sK, ↓sPop, ↓sFor_t, ↓sast, ↓sastC, ↓szst, ↓spst, ↓sput, ↓sputZ, ↓sputR, ↓sputN, ↓sputC, ↓sCopy,
    ↓xi, ↓xl, ↓xr, ↓xc, ↓xcl, ↓xadd, ↓xsub, ↓xmul, ↓xdiv, ↓xrem, ↓xand, ↓xor, ↓xxor, ↓xshl, ↓xshr, ↓xneg, ↓xaddl, ↓xsubl, ↓xmull, ↓xdivl, ↓xreml, ↓xnegl, ↓xi2l, ↓xi2c, ↓xofC, ↓xite, ↓xitel, ↓xiter, ↓xmax, ↓xmin, ↓xabs, ↓xabsl,
    ↓xg, ↓xgR, ↓xgO, ↓oR, ↓xald, ↓xzld, ↓xpld, ↓xlen, ↓xstr, ↓xinst, ↓cNot, ↓cAnd, ↓cOr, ↓cEq, ↓cLt, ↓cGt, ↓cEq0, ↓cLt0, ↓cGt0, ↓cEqL, ↓cLtL, ↓cGtL, ↓cEqO,
    ↓kI, ↓kL, ↓kR, ↓kV, ↓kS, ↓kD, ↓kP, ↓kT, ↓CALL_t, ↓vI, ↓vL, ↓vR, ↓aN, ↓aC, aenv_i, aenv_l, aenv_r, aenv_0, List.replicate, Nat.reduceSub, Nat.reduceAdd, eset2, kill, List.set_cons_zero, List.set_cons_succ, List.set_nil, List.getElem?_cons_zero, List.getElem?_cons_succ, List.getElem?_nil, List.mem_cons, List.not_mem_nil, or_false, or_true, true_and, and_true, true_or, false_or, false_and, and_false, not_false_eq_true, not_true_eq_false, forall_const, false_imp_iff, imp_false, true_imp_iff, if_true, if_false, implies_true, reduceIte, reduceCtorEq,
    ↓onO_M, ↓onI_M1, ↓onI_M2, ↓onI_M3, ↓onI_M4, ↓onZ_M5, ↓onI_M6, ↓onI_M7, ↓onI_M8, ↓onI_M9, ↓onI_M10, ↓onI_M11, ↓fR_m1, ↓fR_m2, ↓fR_m3, ↓fR_m10, ↓fR_m11, ↓fR_m13, ↓fR_m14, ↓fR_m15, ↓fR_m16, ↓fR_m18, ↓fR_m19, ↓fI_m0, ↓fI_m4, ↓fI_m5, ↓fI_m6, ↓fI_m7, ↓fI_m8, ↓fI_m9, ↓fI_m12, ↓fI_m17, ↓fI_m20, ↓fI_m21, ↓fI_m22, ↓fI_m23,
    MHu_0, MHu_1, MHu_2, MHu_3, MHu_4, MHu_5, MHu_6, MHu_7, MHu_8, MHu_9, MHu_10, MHu_11, mfs_s4, mfs_s5, mfs_s6, mfs_s7, mfs_s8, mfs_s9, mfs_s12, mfs_s17, mfs_s20, mfs_s21, mfs_s22, mfs_s23, mfs_len, Nat.reduceLT, nI_add, nI_mulN, lit32, nI_clamp, vp_in_nI, nI_ltI, nI_eq, nI_leI, Nat.reduceMul, Nat.zero_add, Nat.add_zero, PH, pI_6, pI_8, pI_9, pI_5, pI_7, pIu_6, pIu8_t, pIu8_f, pIu_9, bI_ne]
    refine ⟨fun y => ?_, fun y => ?_⟩
    · have hlt := pHere_lt y (by decide)
      have hn : e ≤ s + n := hn.resolve_left (by decide)
      obtain ⟨n, rfl⟩ : ∃ m, n = m + 1 := ⟨n - 1, by omega⟩
      have hp : (if (false = false ∧ pHere (tape S) e s = nI 124) then pLoop (tape S) e (nI 124) (-nI 3) f n (pEmit (-nI 3) (f (s + 1, (false, L)))) else (s, (false, L))) = _ := hp
      rw [if_pos ⟨rfl, y⟩] at hp
      have hf2 := hf (s + 1, (false, L))
      have hf3 := hf2.2.1 hlt
      have hf4 := hf2.2.2
      have hf5 := hf2.1
      dsimp only at hf3 hf4 hf5
      simp (disch := omega) only [↓sSeq, ↓sI_f, ↓sL_f, ↓sR_f, ↓sInc_f, fE_c, eset_0, eset_1i, eset_1r, eset_1n, eset_1l, eset_ss, ↓sIf, ↓sBrk, ↓sCnt, ↓sRetI, ↓sRetL, ↓sRetR, ↓sRet, ↓sRetZ, ↓sSkip, ↓sSw, ↓sK, ↓sPop, ↓sFor_t, ↓sast, ↓sastC, ↓szst, ↓spst, ↓sput, ↓sputZ, ↓sputR, ↓sputN, ↓sputC, ↓sCopy,
    ↓xi, ↓xl, ↓xr, ↓xc, ↓xcl, ↓xadd, ↓xsub, ↓xmul, ↓xdiv, ↓xrem, ↓xand, ↓xor, ↓xxor, ↓xshl, ↓xshr, ↓xneg, ↓xaddl, ↓xsubl, ↓xmull, ↓xdivl, ↓xreml, ↓xnegl, ↓xi2l, ↓xi2c, ↓xofC, ↓xite, ↓xitel, ↓xiter, ↓xmax, ↓xmin, ↓xabs, ↓xabsl,
    ↓xg, ↓xgR, ↓xgO, ↓oR, ↓xald, ↓xzld, ↓xpld, ↓xlen, ↓xstr, ↓xinst, ↓cNot, ↓cAnd, ↓cOr, ↓cEq, ↓cLt, ↓cGt, ↓cEq0, ↓cLt0, ↓cGt0, ↓cEqL, ↓cLtL, ↓cGtL, ↓cEqO,
    ↓kI, ↓kL, ↓kR, ↓kV, ↓kS, ↓kD, ↓kP, ↓kT, ↓CALL_t, ↓vI, ↓vL, ↓vR, ↓aN, ↓aC, aenv_i, aenv_l, aenv_r, aenv_0, List.replicate, Nat.reduceSub, Nat.reduceAdd, eset2, kill, List.set_cons_zero, List.set_cons_succ, List.set_nil, List.getElem?_cons_zero, List.getElem?_cons_succ, List.getElem?_nil, List.mem_cons, List.not_mem_nil, or_false, or_true, true_and, and_true, true_or, false_or, false_and, and_false, not_false_eq_true, not_true_eq_false, forall_const, false_imp_iff, imp_false, true_imp_iff, if_true, if_false, implies_true, reduceIte, reduceCtorEq,
    ↓onO_M, ↓onI_M1, ↓onI_M2, ↓onI_M3, ↓onI_M4, ↓onZ_M5, ↓onI_M6, ↓onI_M7, ↓onI_M8, ↓onI_M9, ↓onI_M10, ↓onI_M11, ↓fR_m1, ↓fR_m2, ↓fR_m3, ↓fR_m10, ↓fR_m11, ↓fR_m13, ↓fR_m14, ↓fR_m15, ↓fR_m16, ↓fR_m18, ↓fR_m19, ↓fI_m0, ↓fI_m4, ↓fI_m5, ↓fI_m6, ↓fI_m7, ↓fI_m8, ↓fI_m9, ↓fI_m12, ↓fI_m17, ↓fI_m20, ↓fI_m21, ↓fI_m22, ↓fI_m23,
    MHu_0, MHu_1, MHu_2, MHu_3, MHu_4, MHu_5, MHu_6, MHu_7, MHu_8, MHu_9, MHu_10, MHu_11, mfs_s4, mfs_s5, mfs_s6, mfs_s7, mfs_s8, mfs_s9, mfs_s12, mfs_s17, mfs_s20, mfs_s21, mfs_s22, mfs_s23, mfs_len, Nat.reduceLT, nI_add, nI_mulN, lit32, nI_clamp, vp_in_nI, nI_ltI, nI_eq, nI_leI, Nat.reduceMul, Nat.zero_add, Nat.add_zero, PH, pI_6, pI_8, pI_9, pI_5, pI_7, pIu_6, pIu8_t, pIu8_f, pIu_9, bI_ne, L_Mod_some_1]
      refine H _ (by omega) (s + 1, (false, L)) _ hlt (by dsimp only; omega) hw ?_
      simp (disch := omega) only [↓sSeq, ↓sI_f, ↓sL_f, ↓sR_f, ↓sInc_f, fE_c, eset_0, eset_1i, eset_1r, eset_1n, eset_1l, eset_ss, ↓sIf, ↓sBrk, ↓sCnt, ↓sRetI, ↓sRetL, ↓sRetR, ↓sRet, ↓sRetZ, ↓sSkip, ↓sSw, ↓sK, ↓sPop, ↓sFor_t, ↓sast, ↓sastC, ↓szst, ↓spst, ↓sput, ↓sputZ, ↓sputR, ↓sputN, ↓sputC, ↓sCopy,
    ↓xi, ↓xl, ↓xr, ↓xc, ↓xcl, ↓xadd, ↓xsub, ↓xmul, ↓xdiv, ↓xrem, ↓xand, ↓xor, ↓xxor, ↓xshl, ↓xshr, ↓xneg, ↓xaddl, ↓xsubl, ↓xmull, ↓xdivl, ↓xreml, ↓xnegl, ↓xi2l, ↓xi2c, ↓xofC, ↓xite, ↓xitel, ↓xiter, ↓xmax, ↓xmin, ↓xabs, ↓xabsl,
    ↓xg, ↓xgR, ↓xgO, ↓oR, ↓xald, ↓xzld, ↓xpld, ↓xlen, ↓xstr, ↓xinst, ↓cNot, ↓cAnd, ↓cOr, ↓cEq, ↓cLt, ↓cGt, ↓cEq0, ↓cLt0, ↓cGt0, ↓cEqL, ↓cLtL, ↓cGtL, ↓cEqO,
    ↓kI, ↓kL, ↓kR, ↓kV, ↓kS, ↓kD, ↓kP, ↓kT, ↓CALL_t, ↓vI, ↓vL, ↓vR, ↓aN, ↓aC, aenv_i, aenv_l, aenv_r, aenv_0, List.replicate, Nat.reduceSub, Nat.reduceAdd, eset2, kill, List.set_cons_zero, List.set_cons_succ, List.set_nil, List.getElem?_cons_zero, List.getElem?_cons_succ, List.getElem?_nil, List.mem_cons, List.not_mem_nil, or_false, or_true, true_and, and_true, true_or, false_or, false_and, and_false, not_false_eq_true, not_true_eq_false, forall_const, false_imp_iff, imp_false, true_imp_iff, if_true, if_false, implies_true, reduceIte, reduceCtorEq,
    ↓onO_M, ↓onI_M1, ↓onI_M2, ↓onI_M3, ↓onI_M4, ↓onZ_M5, ↓onI_M6, ↓onI_M7, ↓onI_M8, ↓onI_M9, ↓onI_M10, ↓onI_M11, ↓fR_m1, ↓fR_m2, ↓fR_m3, ↓fR_m10, ↓fR_m11, ↓fR_m13, ↓fR_m14, ↓fR_m15, ↓fR_m16, ↓fR_m18, ↓fR_m19, ↓fI_m0, ↓fI_m4, ↓fI_m5, ↓fI_m6, ↓fI_m7, ↓fI_m8, ↓fI_m9, ↓fI_m12, ↓fI_m17, ↓fI_m20, ↓fI_m21, ↓fI_m22, ↓fI_m23,
    MHu_0, MHu_1, MHu_2, MHu_3, MHu_4, MHu_5, MHu_6, MHu_7, MHu_8, MHu_9, MHu_10, MHu_11, mfs_s4, mfs_s5, mfs_s6, mfs_s7, mfs_s8, mfs_s9, mfs_s12, mfs_s17, mfs_s20, mfs_s21, mfs_s22, mfs_s23, mfs_len, Nat.reduceLT, nI_add, nI_mulN, lit32, nI_clamp, vp_in_nI, nI_ltI, nI_eq, nI_leI, Nat.reduceMul, Nat.zero_add, Nat.add_zero, PH, pI_6, pI_8, pI_9, pI_5, pI_7, pIu_6, pIu8_t, pIu8_f, pIu_9, bI_ne]
      refine t_emits (by omega) ha hi5 (by omega) ?_
      simp (disch := omega) only [↓sSeq, ↓sI_f, ↓sL_f, ↓sR_f, ↓sInc_f, fE_c, eset_0, eset_1i, eset_1r, eset_1n, eset_1l, eset_ss, ↓sIf, ↓sBrk, ↓sCnt, ↓sRetI, ↓sRetL, ↓sRetR, ↓sRet, ↓sRetZ, ↓sSkip, ↓sSw, ↓sK, ↓sPop, ↓sFor_t, ↓sast, ↓sastC, ↓szst, ↓spst, ↓sput, ↓sputZ, ↓sputR, ↓sputN, ↓sputC, ↓sCopy,
    ↓xi, ↓xl, ↓xr, ↓xc, ↓xcl, ↓xadd, ↓xsub, ↓xmul, ↓xdiv, ↓xrem, ↓xand, ↓xor, ↓xxor, ↓xshl, ↓xshr, ↓xneg, ↓xaddl, ↓xsubl, ↓xmull, ↓xdivl, ↓xreml, ↓xnegl, ↓xi2l, ↓xi2c, ↓xofC, ↓xite, ↓xitel, ↓xiter, ↓xmax, ↓xmin, ↓xabs, ↓xabsl,
    ↓xg, ↓xgR, ↓xgO, ↓oR, ↓xald, ↓xzld, ↓xpld, ↓xlen, ↓xstr, ↓xinst, ↓cNot, ↓cAnd, ↓cOr, ↓cEq, ↓cLt, ↓cGt, ↓cEq0, ↓cLt0, ↓cGt0, ↓cEqL, ↓cLtL, ↓cGtL, ↓cEqO,
    ↓kI, ↓kL, ↓kR, ↓kV, ↓kS, ↓kD, ↓kP, ↓kT, ↓CALL_t, ↓vI, ↓vL, ↓vR, ↓aN, ↓aC, aenv_i, aenv_l, aenv_r, aenv_0, List.replicate, Nat.reduceSub, Nat.reduceAdd, eset2, kill, List.set_cons_zero, List.set_cons_succ, List.set_nil, List.getElem?_cons_zero, List.getElem?_cons_succ, List.getElem?_nil, List.mem_cons, List.not_mem_nil, or_false, or_true, true_and, and_true, true_or, false_or, false_and, and_false, not_false_eq_true, not_true_eq_false, forall_const, false_imp_iff, imp_false, true_imp_iff, if_true, if_false, implies_true, reduceIte, reduceCtorEq, nI_add, nI_mulN, lit32, nI_clamp, vp_in_nI, nI_ltI, nI_eq, nI_leI, Nat.reduceMul, Nat.zero_add, Nat.add_zero]
      have hEk := pEmit_ok (e := e) (q := (s, (false, L))) (x := -nI 3) hf2 hlt
      refine hP n _ _ rfl ⟨_, hEk.2.1 hs, by have := hEk.2.2; dsimp only at this; omega, ?_, ?_, hp, rfl, rfl⟩
      · have : (pEmit (-nI 3) (f (s + 1, (false, L)))).2.1 = (f (s + 1, (false, L))).2.1 := by unfold pEmit; split <;> rfl
        rw [this]; exact hC _ hw
      · right
        have : (pEmit (-nI 3) (f (s + 1, (false, L)))).1 = (f (s + 1, (false, L))).1 := by unfold pEmit; split <;> rfl
        rw [this]; omega
    · have hp2 : pLoop (tape S) e (nI 124) (-nI 3) f n (s, (false, L)) = (s, (false, L)) := pLoop_no (fun z => y z.2)
      rw [hp2] at hp
      rw [← hp] at hK
      exact hK
  · have hp2 : pLoop (tape S) e (nI 124) (-nI 3) f n (s, (w, L)) = (s, (w, L)) := pLoop_no (fun y => z y.1)
    rw [hp2] at hp
    rw [← hp] at hK
    exact hK
/-- the figures, round by round -/
def figL (c : Nat → Int32) (e k : Nat) : Nat → Int32 → PSt → Int32 × PSt
  | 0, v, q => (v, q)
  | m + 1, v, q => if q.2.1 = false ∧ pDig (pHere c e q.1) = true ∧ (k = 0 ∨ nI 0 < v) then figL c e (k + 1) m (nI 10 * v + pHere c e q.1 - nI 48) (q.1 + 1, q.2) else (v, q)
theorem figL_0 {c : Nat → Int32} {k : Nat} {v : Int32} {q : PSt} : figL c e k 0 v q = (v, q) := rfl
theorem figL_t {c : Nat → Int32} {k m : Nat} {v : Int32} {q : PSt} (h : q.2.1 = false ∧ pDig (pHere c e q.1) = true ∧ (k = 0 ∨ nI 0 < v)) : figL c e k (m + 1) v q = figL c e (k + 1) m (nI 10 * v + pHere c e q.1 - nI 48) (q.1 + 1, q.2) := if_pos h
theorem figL_f {c : Nat → Int32} {k m : Nat} {v : Int32} {q : PSt} (h : ¬ (q.2.1 = false ∧ pDig (pHere c e q.1) = true ∧ (k = 0 ∨ nI 0 < v))) : figL c e k m v q = (v, q) := by
  cases m with
  | zero => exact figL_0
  | succ m => exact if_neg h
theorem ten0 (x : Int32) : nI 10 * nI 0 + x - nI 48 = x - nI 48 := by
  rw [nI_mulN, show (nI (10 * 0) : Int32) = 0 from rfl, Int32.zero_add]
theorem figL_w {c : Nat → Int32} {s : Nat} {w : Bool} {L : List Int32} (h : w = true ∨ pDig (pHere c e s) = false) : figL c e 0 2 (nI 0) (s, (true, L)) = pFig c e (s, (w, L)) := by
  have e1 : pFig c e (s, (w, L)) = (nI 0, (s, (true, L))) := by
    unfold pFig; dsimp only; rw [if_pos h]
  rw [e1, figL_f (fun z => Bool.noConfusion z.1)]
theorem figL_a {c : Nat → Int32} {s : Nat} {L : List Int32} (h : pDig (pHere c e s) = true) : figL c e 0 2 (nI 0) (s, (false, L)) = figL c e 1 1 (pHere c e s - nI 48) (s + 1, (false, L)) := by
  have t0 := figL_t (c := c) (e := e) (k := 0) (m := 1) (v := nI 0) (q := (s, (false, L))) ⟨rfl, h, Or.inl rfl⟩
  dsimp only at t0
  rw [ten0 (pHere c e s)] at t0
  exact t0
theorem figL_b {c : Nat → Int32} {s : Nat} {v : Int32} {L : List Int32} (h : pDig (pHere c e s) = true) (h2 : nI 0 < v) : figL c e 1 1 v (s, (false, L)) = (nI 10 * v + pHere c e s - nI 48, (s + 1, (false, L))) := by
  have t0 := figL_t (c := c) (e := e) (k := 1) (m := 0) (v := v) (q := (s, (false, L))) ⟨rfl, h, Or.inr h2⟩
  rw [figL_0] at t0
  exact t0
theorem figL_c {c : Nat → Int32} {s : Nat} {v : Int32} {L : List Int32} (h : ¬ (pDig (pHere c e s) = true ∧ nI 0 < v)) : figL c e 1 1 v (s, (false, L)) = (v, (s, (false, L))) := figL_f (fun z => h ⟨z.2.1, z.2.2.resolve_left (by decide)⟩)
theorem pFig_1 {c : Nat → Int32} {s : Nat} {L : List Int32} (h : pDig (pHere c e s) = true) (h2 : pDig (pHere c e (s + 1)) = true ∧ nI 0 < pHere c e s - nI 48) : pFig c e (s, (false, L)) = (nI 10 * (pHere c e s - nI 48) + pHere c e (s + 1) - nI 48, (s + 2, (false, L))) := by
  have n1 : ¬ (false = true ∨ pDig (pHere c e s) = false) := fun z => z.elim (fun z => Bool.noConfusion z) (fun z => by rw [h] at z; exact Bool.noConfusion z)
  unfold pFig
  exact (if_neg n1).trans (if_pos h2)
theorem pFig_2 {c : Nat → Int32} {s : Nat} {L : List Int32} (h : pDig (pHere c e s) = true) (h2 : ¬ (pDig (pHere c e (s + 1)) = true ∧ nI 0 < pHere c e s - nI 48)) : pFig c e (s, (false, L)) = (pHere c e s - nI 48, (s + 1, (false, L))) := by
  have n1 : ¬ (false = true ∨ pDig (pHere c e s) = false) := fun z => z.elim (fun z => Bool.noConfusion z) (fun z => by rw [h] at z; exact Bool.noConfusion z)
  unfold pFig
  exact (if_neg n1).trans (if_neg h2)
theorem figL_d {c : Nat → Int32} {s : Nat} {L : List Int32} (h : pDig (pHere c e s) = true) : figL c e 0 2 (nI 0) (s, (false, L)) = pFig c e (s, (false, L)) := by
  rw [figL_a h]
  by_cases h2 : pDig (pHere c e (s + 1)) = true ∧ nI 0 < pHere c e s - nI 48
  · rw [figL_b h2.1 h2.2, pFig_1 h h2]
  · rw [figL_c h2, pFig_2 h h2]
end PARSE3
