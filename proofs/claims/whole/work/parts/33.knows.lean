section KNOWS
variable {X : WX} {d : Nat} {h : HM} {i : Nat → Int32} {S I F B T : Nat → Int32} {r : Nat → Nat → Int32} {K : Option Value → HM → Prop}
def nxR (S : Nat → Int32) (n p : Nat) (set : Int32) : Nat → Nat → Int32
  | _, 0 => -nI 1
  | k, m + 1 => if S (30 + (p + k) % n) = S (30 + p) ∧ jshr set (nI ((p + k) % n)) &&& nI 1 = nI 0 then nI ((p + k) % n) else nxR S n p set (k + 1) m
theorem nxR_t {n p k m : Nat} {set : Int32} (h : S (30 + (p + k) % n) = S (30 + p) ∧ jshr set (nI ((p + k) % n)) &&& nI 1 = nI 0) : nxR S n p set k (m + 1) = nI ((p + k) % n) := if_pos h
theorem nxR_f {n p k m : Nat} {set : Int32} (h : ¬ (S (30 + (p + k) % n) = S (30 + p) ∧ jshr set (nI ((p + k) % n)) &&& nI 1 = nI 0)) : nxR S n p set k (m + 1) = nxR S n p set (k + 1) m := if_neg h
theorem t_nextNot (hd : 1 ≤ d) {n p : Nat} {set : Int32} (hn : n ≤ 6) (hS : S 11 = nI n) (hp : p < n) (hK : K (some (.int (nxR S n p set 1 (n - 1)))) (MH X h i S I F B T r)) : CALL X M_Mod_nextNot d [.ref (mB X), .int (nI p), .int set] (MH X h i S I F B T r) K := by
  obtain ⟨d, rfl⟩ : ∃ e, d = e + 1 := ⟨d - 1, by omega⟩
  refine call_of (by decide +kernel) (by decide) (F_Mod_nextNot X d) (Nat.le_of_ble_eq_true rfl) ?_
  intro g
  simp (disch := omega) only [↓sSeq, ↓sI_f, ↓sL_f, ↓sR_f, ↓sInc_f, fE_c, eset_0, eset_1i, eset_1r, eset_1n, eset_1l, eset_ss, ↓sIf, ↓sBrk, ↓sCnt, ↓sRetI, ↓sRetL, ↓sRetR, ↓sRet, ↓sRetZ, ↓sSkip, ↓sSw, ↓sK, ↓sPop, ↓sFor_t, ↓sast, ↓sastC, ↓szst, ↓spst, ↓sput, ↓sputZ, ↓sputR, ↓sputN, ↓sputC, ↓sCopy,
    ↓xi, ↓xl, ↓xr, ↓xc, ↓xcl, ↓xadd, ↓xsub, ↓xmul, ↓xdiv, ↓xrem, ↓xand, ↓xor, ↓xxor, ↓xshl, ↓xshr, ↓xneg, ↓xaddl, ↓xsubl, ↓xmull, ↓xdivl, ↓xreml, ↓xnegl, ↓xi2l, ↓xi2c, ↓xofC, ↓xite, ↓xitel, ↓xiter, ↓xmax, ↓xmin, ↓xabs, ↓xabsl,
    ↓xg, ↓xgR, ↓xgO, ↓oR, ↓xald, ↓xzld, ↓xpld, ↓xlen, ↓xstr, ↓xinst, ↓cNot, ↓cAnd, ↓cOr, ↓cEq, ↓cLt, ↓cGt, ↓cEq0, ↓cLt0, ↓cGt0, ↓cEqL, ↓cLtL, ↓cGtL, ↓cEqO,
    ↓kI, ↓kL, ↓kR, ↓kV, ↓kS, ↓kD, ↓kP, ↓kT, ↓CALL_t, ↓vI, ↓vL, ↓vR, ↓aN, ↓aC, aenv_i, aenv_l, aenv_r, aenv_0, List.replicate, Nat.reduceSub, Nat.reduceAdd, eset2, kill, List.set_cons_zero, List.set_cons_succ, List.set_nil, List.getElem?_cons_zero, List.getElem?_cons_succ, List.getElem?_nil, List.mem_cons, List.not_mem_nil, or_false, or_true, true_and, and_true, true_or, false_or, false_and, and_false, not_false_eq_true, not_true_eq_false, forall_const, false_imp_iff, imp_false, true_imp_iff, if_true, if_false, implies_true, reduceIte, reduceCtorEq,
    ↓onO_M, ↓onI_M1, ↓onI_M2, ↓onI_M3, ↓onI_M4, ↓onZ_M5, ↓onI_M6, ↓onI_M7, ↓onI_M8, ↓onI_M9, ↓onI_M10, ↓onI_M11, ↓fR_m1, ↓fR_m2, ↓fR_m3, ↓fR_m10, ↓fR_m11, ↓fR_m13, ↓fR_m14, ↓fR_m15, ↓fR_m16, ↓fR_m18, ↓fR_m19, ↓fI_m0, ↓fI_m4, ↓fI_m5, ↓fI_m6, ↓fI_m7, ↓fI_m8, ↓fI_m9, ↓fI_m12, ↓fI_m17, ↓fI_m20, ↓fI_m21, ↓fI_m22, ↓fI_m23,
    MHu_0, MHu_1, MHu_2, MHu_3, MHu_4, MHu_5, MHu_6, MHu_7, MHu_8, MHu_9, MHu_10, MHu_11, mfs_s4, mfs_s5, mfs_s6, mfs_s7, mfs_s8, mfs_s9, mfs_s12, mfs_s17, mfs_s20, mfs_s21, mfs_s22, mfs_s23, mfs_len, Nat.reduceLT, nI_add, nI_mulN, lit32, nI_clamp, vp_in_nI, nI_ltI, nI_eq, nI_leI, Nat.reduceMul, Nat.zero_add, Nat.add_zero, B_Mod_nextNot, M_Mod_nextNot]
  refine for_rule (fun m env σ => ∃ (k : Nat) (x4 : Option Value), k + 1 + m = n ∧ nxR S n p set (k + 1) m = nxR S n p set 1 (n - 1) ∧ env = [some (.ref (mB X)), some (.int (nI p)), some (.int set), some (.int (nI (k + 1))), x4] ∧ σ = (MH X h i S I F B T r, g)) (n - 1) ⟨0, _, by omega, rfl, rfl, rfl⟩ ?_
  rintro m env σ P ⟨k, x4, hk, he, rfl, rfl⟩ hP
  simp (disch := omega) only [↓sSeq, ↓sI_f, ↓sL_f, ↓sR_f, ↓sInc_f, fE_c, eset_0, eset_1i, eset_1r, eset_1n, eset_1l, eset_ss, ↓sIf, ↓sBrk, ↓sCnt, ↓sRetI, ↓sRetL, ↓sRetR, ↓sRet, ↓sRetZ, ↓sSkip, ↓sSw, ↓sK, ↓sPop, ↓sFor_t, ↓sast, ↓sastC, ↓szst, ↓spst, ↓sput, ↓sputZ, ↓sputR, ↓sputN, ↓sputC, ↓sCopy,
    ↓xi, ↓xl, ↓xr, ↓xc, ↓xcl, ↓xadd, ↓xsub, ↓xmul, ↓xdiv, ↓xrem, ↓xand, ↓xor, ↓xxor, ↓xshl, ↓xshr, ↓xneg, ↓xaddl, ↓xsubl, ↓xmull, ↓xdivl, ↓xreml, ↓xnegl, ↓xi2l, ↓xi2c, ↓xofC, ↓xite, ↓xitel, ↓xiter, ↓xmax, ↓xmin, ↓xabs, ↓xabsl,
    ↓xg, ↓xgR, ↓xgO, ↓oR, ↓xald, ↓xzld, ↓xpld, ↓xlen, ↓xstr, ↓xinst, ↓cNot, ↓cAnd, ↓cOr, ↓cEq, ↓cLt, ↓cGt, ↓cEq0, ↓cLt0, ↓cGt0, ↓cEqL, ↓cLtL, ↓cGtL, ↓cEqO,
    ↓kI, ↓kL, ↓kR, ↓kV, ↓kS, ↓kD, ↓kP, ↓kT, ↓CALL_t, ↓vI, ↓vL, ↓vR, ↓aN, ↓aC, aenv_i, aenv_l, aenv_r, aenv_0, List.replicate, Nat.reduceSub, Nat.reduceAdd, eset2, kill, List.set_cons_zero, List.set_cons_succ, List.set_nil, List.getElem?_cons_zero, List.getElem?_cons_succ, List.getElem?_nil, List.mem_cons, List.not_mem_nil, or_false, or_true, true_and, and_true, true_or, false_or, false_and, and_false, not_false_eq_true, not_true_eq_false, forall_const, false_imp_iff, imp_false, true_imp_iff, if_true, if_false, implies_true, reduceIte, reduceCtorEq,
    ↓onO_M, ↓onI_M1, ↓onI_M2, ↓onI_M3, ↓onI_M4, ↓onZ_M5, ↓onI_M6, ↓onI_M7, ↓onI_M8, ↓onI_M9, ↓onI_M10, ↓onI_M11, ↓fR_m1, ↓fR_m2, ↓fR_m3, ↓fR_m10, ↓fR_m11, ↓fR_m13, ↓fR_m14, ↓fR_m15, ↓fR_m16, ↓fR_m18, ↓fR_m19, ↓fI_m0, ↓fI_m4, ↓fI_m5, ↓fI_m6, ↓fI_m7, ↓fI_m8, ↓fI_m9, ↓fI_m12, ↓fI_m17, ↓fI_m20, ↓fI_m21, ↓fI_m22, ↓fI_m23,
    MHu_0, MHu_1, MHu_2, MHu_3, MHu_4, MHu_5, MHu_6, MHu_7, MHu_8, MHu_9, MHu_10, MHu_11, mfs_s4, mfs_s5, mfs_s6, mfs_s7, mfs_s8, mfs_s9, mfs_s12, mfs_s17, mfs_s20, mfs_s21, mfs_s22, mfs_s23, mfs_len, Nat.reduceLT, nI_add, nI_mulN, lit32, nI_clamp, vp_in_nI, nI_ltI, nI_eq, nI_leI, Nat.reduceMul, Nat.zero_add, Nat.add_zero, hS]
  refine ⟨fun z => ?_, fun z => ?_⟩
  · obtain ⟨m, rfl⟩ : ∃ m', m = m' + 1 := ⟨m - 1, by omega⟩
    have hq : (p + (k + 1)) % n < n := Nat.mod_lt _ (by omega)
    simp (disch := omega) only [↓sSeq, ↓sI_f, ↓sL_f, ↓sR_f, ↓sInc_f, fE_c, eset_0, eset_1i, eset_1r, eset_1n, eset_1l, eset_ss, ↓sIf, ↓sBrk, ↓sCnt, ↓sRetI, ↓sRetL, ↓sRetR, ↓sRet, ↓sRetZ, ↓sSkip, ↓sSw, ↓sK, ↓sPop, ↓sFor_t, ↓sast, ↓sastC, ↓szst, ↓spst, ↓sput, ↓sputZ, ↓sputR, ↓sputN, ↓sputC, ↓sCopy,
    ↓xi, ↓xl, ↓xr, ↓xc, ↓xcl, ↓xadd, ↓xsub, ↓xmul, ↓xdiv, ↓xrem, ↓xand, ↓xor, ↓xxor, ↓xshl, ↓xshr, ↓xneg, ↓xaddl, ↓xsubl, ↓xmull, ↓xdivl, ↓xreml, ↓xnegl, ↓xi2l, ↓xi2c, ↓xofC, ↓xite, ↓xitel, ↓xiter, ↓xmax, ↓xmin, ↓xabs, ↓xabsl,
    ↓xg, ↓xgR, ↓xgO, ↓oR, ↓xald, ↓xzld, ↓xpld, ↓xlen, ↓xstr, ↓xinst, ↓cNot, ↓cAnd, ↓cOr, ↓cEq, ↓cLt, ↓cGt, ↓cEq0, ↓cLt0, ↓cGt0, ↓cEqL, ↓cLtL, ↓cGtL, ↓cEqO,
    ↓kI, ↓kL, ↓kR, ↓kV, ↓kS, ↓kD, ↓kP, ↓kT, ↓CALL_t, ↓vI, ↓vL, ↓vR, ↓aN, ↓aC, aenv_i, aenv_l, aenv_r, aenv_0, List.replicate, Nat.reduceSub, Nat.reduceAdd, eset2, kill, List.set_cons_zero, List.set_cons_succ, List.set_nil, List.getElem?_cons_zero, List.getElem?_cons_succ, List.getElem?_nil, List.mem_cons, List.not_mem_nil, or_false, or_true, true_and, and_true, true_or, false_or, false_and, and_false, not_false_eq_true, not_true_eq_false, forall_const, false_imp_iff, imp_false, true_imp_iff, if_true, if_false, implies_true, reduceIte, reduceCtorEq,
    ↓onO_M, ↓onI_M1, ↓onI_M2, ↓onI_M3, ↓onI_M4, ↓onZ_M5, ↓onI_M6, ↓onI_M7, ↓onI_M8, ↓onI_M9, ↓onI_M10, ↓onI_M11, ↓fR_m1, ↓fR_m2, ↓fR_m3, ↓fR_m10, ↓fR_m11, ↓fR_m13, ↓fR_m14, ↓fR_m15, ↓fR_m16, ↓fR_m18, ↓fR_m19, ↓fI_m0, ↓fI_m4, ↓fI_m5, ↓fI_m6, ↓fI_m7, ↓fI_m8, ↓fI_m9, ↓fI_m12, ↓fI_m17, ↓fI_m20, ↓fI_m21, ↓fI_m22, ↓fI_m23,
    MHu_0, MHu_1, MHu_2, MHu_3, MHu_4, MHu_5, MHu_6, MHu_7, MHu_8, MHu_9, MHu_10, MHu_11, mfs_s4, mfs_s5, mfs_s6, mfs_s7, mfs_s8, mfs_s9, mfs_s12, mfs_s17, mfs_s20, mfs_s21, mfs_s22, mfs_s23, mfs_len, Nat.reduceLT, nI_add, nI_mulN, lit32, nI_clamp, vp_in_nI, nI_ltI, nI_eq, nI_leI, Nat.reduceMul, Nat.zero_add, Nat.add_zero, L_Mod_nextNot_1, hS, nI_jrem]
    refine ⟨by omega, fun q => ⟨fun q2 => ?_, fun q2 => ?_⟩, fun q => ?_⟩
    · rw [nxR_t ⟨q, q2⟩] at he
      rw [he]; exact hK
    · rw [nxR_f (fun w => q2 w.2)] at he
      exact hP m _ _ (by omega) ⟨k + 1, _, by omega, he, rfl, rfl⟩
    · rw [nxR_f (fun w => q w.1)] at he
      exact hP m _ _ (by omega) ⟨k + 1, _, by omega, he, rfl, rfl⟩
  · have : m = 0 := by omega
    subst this
    have he : -nI 1 = nxR S n p set 1 (n - 1) := he
    rw [he]; exact hK
def allR (S : Nat → Int32) (x : Nat) : Nat → Int32
  | 0 => nI 0
  | p + 1 => allR S x p ||| (if S (30 + p) = S (30 + x) then jshl (nI 1) (nI p) else nI 0)
def hasR (S : Nat → Int32) (x : Nat) : Nat → Int32
  | 0 => nI 0
  | p + 1 => hasR S x p ||| (if S (30 + p) = S (30 + x) ∧ S (5 + p) = S (5 + x) then jshl (nI 1) (nI p) else nI 0)
theorem allR_t {x p : Nat} (h : S (30 + p) = S (30 + x)) : allR S x (p + 1) = allR S x p ||| jshl (nI 1) (nI p) := by
  show allR S x p ||| (if S (30 + p) = S (30 + x) then jshl (nI 1) (nI p) else nI 0) = _
  rw [if_pos h]
theorem allR_f {x p : Nat} (h : ¬ S (30 + p) = S (30 + x)) : allR S x (p + 1) = allR S x p ||| nI 0 := by
  show allR S x p ||| (if S (30 + p) = S (30 + x) then jshl (nI 1) (nI p) else nI 0) = _
  rw [if_neg h]
theorem hasR_t {x p : Nat} (h : S (30 + p) = S (30 + x) ∧ S (5 + p) = S (5 + x)) : hasR S x (p + 1) = hasR S x p ||| jshl (nI 1) (nI p) := by
  show hasR S x p ||| (if S (30 + p) = S (30 + x) ∧ S (5 + p) = S (5 + x) then jshl (nI 1) (nI p) else nI 0) = _
  rw [if_pos h]
theorem hasR_f {x p : Nat} (h : ¬ (S (30 + p) = S (30 + x) ∧ S (5 + p) = S (5 + x))) : hasR S x (p + 1) = hasR S x p ||| nI 0 := by
  show hasR S x p ||| (if S (30 + p) = S (30 + x) ∧ S (5 + p) = S (5 + x) then jshl (nI 1) (nI p) else nI 0) = _
  rw [if_neg h]
def qR (S : Nat → Int32) (n : Nat) (has : Int32) (p : Nat) : Int32 := if jshr has (nI p) &&& nI 1 = nI 1 then nxR S n p has 1 (n - 1) else -nI 1
def thenR (S : Nat → Int32) (n : Nat) (has : Int32) : Nat → Int32
  | 0 => has
  | p + 1 => thenR S n has p ||| (if qR S n has p = -nI 1 then nI 0 else jshl (nI 1) (qR S n has p))
theorem thenR_n {n p : Nat} {has : Int32} (h : qR S n has p = -nI 1) : thenR S n has (p + 1) = thenR S n has p ||| nI 0 := by
  show thenR S n has p ||| (if qR S n has p = -nI 1 then nI 0 else jshl (nI 1) (qR S n has p)) = _
  rw [if_pos h]
theorem thenR_q {n p : Nat} {has : Int32} (h : ¬ qR S n has p = -nI 1) : thenR S n has (p + 1) = thenR S n has p ||| jshl (nI 1) (qR S n has p) := by
  show thenR S n has p ||| (if qR S n has p = -nI 1 then nI 0 else jshl (nI 1) (qR S n has p)) = _
  rw [if_neg h]
def knR (S : Nat → Int32) (n : Nat) (all : Int32) : Int32 → Nat → Nat → Int32
  | _, _, 0 => -nI 5
  | has, k, m + 1 => if has = all then nI k else knR S n all (thenR S n has n) (k + 1) m
def fKnown (S : Nat → Int32) (x : Int32) : Int32 := if isPer S x then knR S (nP S) (allR S (ix x) (nP S)) (hasR S (ix x) (nP S)) 0 21 else -1
theorem t_knownM (hd : 3 ≤ d) {n : Nat} (hn : n ≤ 6) (hS : S 11 = nI n) {x : Int32} (hK : K (some (.int (fKnown S x))) (MH X h i S I F B T r)) : CALL X M_Mod_known d [.ref (mB X), .int x] (MH X h i S I F B T r) K := by
  simp only [fKnown, nP_of hn hS] at hK
  obtain ⟨d, rfl⟩ : ∃ e, d = e + 1 := ⟨d - 1, by omega⟩
  refine call_of (by decide +kernel) (by decide) (F_Mod_known X d) (Nat.le_of_ble_eq_true rfl) ?_
  intro g
  simp (disch := omega) only [↓sSeq, ↓sI_f, ↓sL_f, ↓sR_f, ↓sInc_f, fE_c, eset_0, eset_1i, eset_1r, eset_1n, eset_1l, eset_ss, ↓sIf, ↓sBrk, ↓sCnt, ↓sRetI, ↓sRetL, ↓sRetR, ↓sRet, ↓sRetZ, ↓sSkip, ↓sSw, ↓sK, ↓sPop, ↓sFor_t, ↓sast, ↓sastC, ↓szst, ↓spst, ↓sput, ↓sputZ, ↓sputR, ↓sputN, ↓sputC, ↓sCopy,
    ↓xi, ↓xl, ↓xr, ↓xc, ↓xcl, ↓xadd, ↓xsub, ↓xmul, ↓xdiv, ↓xrem, ↓xand, ↓xor, ↓xxor, ↓xshl, ↓xshr, ↓xneg, ↓xaddl, ↓xsubl, ↓xmull, ↓xdivl, ↓xreml, ↓xnegl, ↓xi2l, ↓xi2c, ↓xofC, ↓xite, ↓xitel, ↓xiter, ↓xmax, ↓xmin, ↓xabs, ↓xabsl,
    ↓xg, ↓xgR, ↓xgO, ↓oR, ↓xald, ↓xzld, ↓xpld, ↓xlen, ↓xstr, ↓xinst, ↓cNot, ↓cAnd, ↓cOr, ↓cEq, ↓cLt, ↓cGt, ↓cEq0, ↓cLt0, ↓cGt0, ↓cEqL, ↓cLtL, ↓cGtL, ↓cEqO,
    ↓kI, ↓kL, ↓kR, ↓kV, ↓kS, ↓kD, ↓kP, ↓kT, ↓CALL_t, ↓vI, ↓vL, ↓vR, ↓aN, ↓aC, aenv_i, aenv_l, aenv_r, aenv_0, List.replicate, Nat.reduceSub, Nat.reduceAdd, eset2, kill, List.set_cons_zero, List.set_cons_succ, List.set_nil, List.getElem?_cons_zero, List.getElem?_cons_succ, List.getElem?_nil, List.mem_cons, List.not_mem_nil, or_false, or_true, true_and, and_true, true_or, false_or, false_and, and_false, not_false_eq_true, not_true_eq_false, forall_const, false_imp_iff, imp_false, true_imp_iff, if_true, if_false, implies_true, reduceIte, reduceCtorEq,
    ↓onO_M, ↓onI_M1, ↓onI_M2, ↓onI_M3, ↓onI_M4, ↓onZ_M5, ↓onI_M6, ↓onI_M7, ↓onI_M8, ↓onI_M9, ↓onI_M10, ↓onI_M11, ↓fR_m1, ↓fR_m2, ↓fR_m3, ↓fR_m10, ↓fR_m11, ↓fR_m13, ↓fR_m14, ↓fR_m15, ↓fR_m16, ↓fR_m18, ↓fR_m19, ↓fI_m0, ↓fI_m4, ↓fI_m5, ↓fI_m6, ↓fI_m7, ↓fI_m8, ↓fI_m9, ↓fI_m12, ↓fI_m17, ↓fI_m20, ↓fI_m21, ↓fI_m22, ↓fI_m23,
    MHu_0, MHu_1, MHu_2, MHu_3, MHu_4, MHu_5, MHu_6, MHu_7, MHu_8, MHu_9, MHu_10, MHu_11, mfs_s4, mfs_s5, mfs_s6, mfs_s7, mfs_s8, mfs_s9, mfs_s12, mfs_s17, mfs_s20, mfs_s21, mfs_s22, mfs_s23, mfs_len, Nat.reduceLT, nI_add, nI_mulN, lit32, nI_clamp, vp_in_nI, nI_ltI, nI_eq, nI_leI, Nat.reduceMul, Nat.zero_add, Nat.add_zero, B_Mod_known, M_Mod_known]
  refine t_per (by omega) hn hS (fun x hx e hi => ?_) (fun hi => ?_)
  · subst e
    simp only [hi, if_true, ix_nI (show x < 2 ^ 31 by omega)] at hK
    simp (disch := omega) only [↓sSeq, ↓sI_f, ↓sL_f, ↓sR_f, ↓sInc_f, fE_c, eset_0, eset_1i, eset_1r, eset_1n, eset_1l, eset_ss, ↓sIf, ↓sBrk, ↓sCnt, ↓sRetI, ↓sRetL, ↓sRetR, ↓sRet, ↓sRetZ, ↓sSkip, ↓sSw, ↓sK, ↓sPop, ↓sFor_t, ↓sast, ↓sastC, ↓szst, ↓spst, ↓sput, ↓sputZ, ↓sputR, ↓sputN, ↓sputC, ↓sCopy,
    ↓xi, ↓xl, ↓xr, ↓xc, ↓xcl, ↓xadd, ↓xsub, ↓xmul, ↓xdiv, ↓xrem, ↓xand, ↓xor, ↓xxor, ↓xshl, ↓xshr, ↓xneg, ↓xaddl, ↓xsubl, ↓xmull, ↓xdivl, ↓xreml, ↓xnegl, ↓xi2l, ↓xi2c, ↓xofC, ↓xite, ↓xitel, ↓xiter, ↓xmax, ↓xmin, ↓xabs, ↓xabsl,
    ↓xg, ↓xgR, ↓xgO, ↓oR, ↓xald, ↓xzld, ↓xpld, ↓xlen, ↓xstr, ↓xinst, ↓cNot, ↓cAnd, ↓cOr, ↓cEq, ↓cLt, ↓cGt, ↓cEq0, ↓cLt0, ↓cGt0, ↓cEqL, ↓cLtL, ↓cGtL, ↓cEqO,
    ↓kI, ↓kL, ↓kR, ↓kV, ↓kS, ↓kD, ↓kP, ↓kT, ↓CALL_t, ↓vI, ↓vL, ↓vR, ↓aN, ↓aC, aenv_i, aenv_l, aenv_r, aenv_0, List.replicate, Nat.reduceSub, Nat.reduceAdd, eset2, kill, List.set_cons_zero, List.set_cons_succ, List.set_nil, List.getElem?_cons_zero, List.getElem?_cons_succ, List.getElem?_nil, List.mem_cons, List.not_mem_nil, or_false, or_true, true_and, and_true, true_or, false_or, false_and, and_false, not_false_eq_true, not_true_eq_false, forall_const, false_imp_iff, imp_false, true_imp_iff, if_true, if_false, implies_true, reduceIte, reduceCtorEq,
    ↓onO_M, ↓onI_M1, ↓onI_M2, ↓onI_M3, ↓onI_M4, ↓onZ_M5, ↓onI_M6, ↓onI_M7, ↓onI_M8, ↓onI_M9, ↓onI_M10, ↓onI_M11, ↓fR_m1, ↓fR_m2, ↓fR_m3, ↓fR_m10, ↓fR_m11, ↓fR_m13, ↓fR_m14, ↓fR_m15, ↓fR_m16, ↓fR_m18, ↓fR_m19, ↓fI_m0, ↓fI_m4, ↓fI_m5, ↓fI_m6, ↓fI_m7, ↓fI_m8, ↓fI_m9, ↓fI_m12, ↓fI_m17, ↓fI_m20, ↓fI_m21, ↓fI_m22, ↓fI_m23,
    MHu_0, MHu_1, MHu_2, MHu_3, MHu_4, MHu_5, MHu_6, MHu_7, MHu_8, MHu_9, MHu_10, MHu_11, mfs_s4, mfs_s5, mfs_s6, mfs_s7, mfs_s8, mfs_s9, mfs_s12, mfs_s17, mfs_s20, mfs_s21, mfs_s22, mfs_s23, mfs_len, Nat.reduceLT, nI_add, nI_mulN, lit32, nI_clamp, vp_in_nI, nI_ltI, nI_eq, nI_leI, Nat.reduceMul, Nat.zero_add, Nat.add_zero]
    refine for_rule (fun m env σ => ∃ (p : Nat) (x5 : Option Value), p + m = n ∧ env = [some (.ref (mB X)), some (.int (nI x)), some (.int (allR S x p)), some (.int (hasR S x p)), some (.int (nI p)), x5, none, none] ∧ σ = (MH X h i S I F B T r, g)) n ⟨0, _, by omega, rfl, rfl⟩ ?_
    rintro m env σ P ⟨p, x5, hp, rfl, rfl⟩ hP
    simp (disch := omega) only [↓sSeq, ↓sI_f, ↓sL_f, ↓sR_f, ↓sInc_f, fE_c, eset_0, eset_1i, eset_1r, eset_1n, eset_1l, eset_ss, ↓sIf, ↓sBrk, ↓sCnt, ↓sRetI, ↓sRetL, ↓sRetR, ↓sRet, ↓sRetZ, ↓sSkip, ↓sSw, ↓sK, ↓sPop, ↓sFor_t, ↓sast, ↓sastC, ↓szst, ↓spst, ↓sput, ↓sputZ, ↓sputR, ↓sputN, ↓sputC, ↓sCopy,
    ↓xi, ↓xl, ↓xr, ↓xc, ↓xcl, ↓xadd, ↓xsub, ↓xmul, ↓xdiv, ↓xrem, ↓xand, ↓xor, ↓xxor, ↓xshl, ↓xshr, ↓xneg, ↓xaddl, ↓xsubl, ↓xmull, ↓xdivl, ↓xreml, ↓xnegl, ↓xi2l, ↓xi2c, ↓xofC, ↓xite, ↓xitel, ↓xiter, ↓xmax, ↓xmin, ↓xabs, ↓xabsl,
    ↓xg, ↓xgR, ↓xgO, ↓oR, ↓xald, ↓xzld, ↓xpld, ↓xlen, ↓xstr, ↓xinst, ↓cNot, ↓cAnd, ↓cOr, ↓cEq, ↓cLt, ↓cGt, ↓cEq0, ↓cLt0, ↓cGt0, ↓cEqL, ↓cLtL, ↓cGtL, ↓cEqO,
    ↓kI, ↓kL, ↓kR, ↓kV, ↓kS, ↓kD, ↓kP, ↓kT, ↓CALL_t, ↓vI, ↓vL, ↓vR, ↓aN, ↓aC, aenv_i, aenv_l, aenv_r, aenv_0, List.replicate, Nat.reduceSub, Nat.reduceAdd, eset2, kill, List.set_cons_zero, List.set_cons_succ, List.set_nil, List.getElem?_cons_zero, List.getElem?_cons_succ, List.getElem?_nil, List.mem_cons, List.not_mem_nil, or_false, or_true, true_and, and_true, true_or, false_or, false_and, and_false, not_false_eq_true, not_true_eq_false, forall_const, false_imp_iff, imp_false, true_imp_iff, if_true, if_false, implies_true, reduceIte, reduceCtorEq,
    ↓onO_M, ↓onI_M1, ↓onI_M2, ↓onI_M3, ↓onI_M4, ↓onZ_M5, ↓onI_M6, ↓onI_M7, ↓onI_M8, ↓onI_M9, ↓onI_M10, ↓onI_M11, ↓fR_m1, ↓fR_m2, ↓fR_m3, ↓fR_m10, ↓fR_m11, ↓fR_m13, ↓fR_m14, ↓fR_m15, ↓fR_m16, ↓fR_m18, ↓fR_m19, ↓fI_m0, ↓fI_m4, ↓fI_m5, ↓fI_m6, ↓fI_m7, ↓fI_m8, ↓fI_m9, ↓fI_m12, ↓fI_m17, ↓fI_m20, ↓fI_m21, ↓fI_m22, ↓fI_m23,
    MHu_0, MHu_1, MHu_2, MHu_3, MHu_4, MHu_5, MHu_6, MHu_7, MHu_8, MHu_9, MHu_10, MHu_11, mfs_s4, mfs_s5, mfs_s6, mfs_s7, mfs_s8, mfs_s9, mfs_s12, mfs_s17, mfs_s20, mfs_s21, mfs_s22, mfs_s23, mfs_len, Nat.reduceLT, nI_add, nI_mulN, lit32, nI_clamp, vp_in_nI, nI_ltI, nI_eq, nI_leI, Nat.reduceMul, Nat.zero_add, Nat.add_zero, hS]
    refine ⟨fun z => ?_, fun z => ?_⟩
    · simp (disch := omega) only [↓sSeq, ↓sI_f, ↓sL_f, ↓sR_f, ↓sInc_f, fE_c, eset_0, eset_1i, eset_1r, eset_1n, eset_1l, eset_ss, ↓sIf, ↓sBrk, ↓sCnt, ↓sRetI, ↓sRetL, ↓sRetR, ↓sRet, ↓sRetZ, ↓sSkip, ↓sSw, ↓sK, ↓sPop, ↓sFor_t, ↓sast, ↓sastC, ↓szst, ↓spst, ↓sput, ↓sputZ, ↓sputR, ↓sputN, ↓sputC, ↓sCopy,
    ↓xi, ↓xl, ↓xr, ↓xc, ↓xcl, ↓xadd, ↓xsub, ↓xmul, ↓xdiv, ↓xrem, ↓xand, ↓xor, ↓xxor, ↓xshl, ↓xshr, ↓xneg, ↓xaddl, ↓xsubl, ↓xmull, ↓xdivl, ↓xreml, ↓xnegl, ↓xi2l, ↓xi2c, ↓xofC, ↓xite, ↓xitel, ↓xiter, ↓xmax, ↓xmin, ↓xabs, ↓xabsl,
    ↓xg, ↓xgR, ↓xgO, ↓oR, ↓xald, ↓xzld, ↓xpld, ↓xlen, ↓xstr, ↓xinst, ↓cNot, ↓cAnd, ↓cOr, ↓cEq, ↓cLt, ↓cGt, ↓cEq0, ↓cLt0, ↓cGt0, ↓cEqL, ↓cLtL, ↓cGtL, ↓cEqO,
    ↓kI, ↓kL, ↓kR, ↓kV, ↓kS, ↓kD, ↓kP, ↓kT, ↓CALL_t, ↓vI, ↓vL, ↓vR, ↓aN, ↓aC, aenv_i, aenv_l, aenv_r, aenv_0, List.replicate, Nat.reduceSub, Nat.reduceAdd, eset2, kill, List.set_cons_zero, List.set_cons_succ, List.set_nil, List.getElem?_cons_zero, List.getElem?_cons_succ, List.getElem?_nil, List.mem_cons, List.not_mem_nil, or_false, or_true, true_and, and_true, true_or, false_or, false_and, and_false, not_false_eq_true, not_true_eq_false, forall_const, false_imp_iff, imp_false, true_imp_iff, if_true, if_false, implies_true, reduceIte, reduceCtorEq,
    ↓onO_M, ↓onI_M1, ↓onI_M2, ↓onI_M3, ↓onI_M4, ↓onZ_M5, ↓onI_M6, ↓onI_M7, ↓onI_M8, ↓onI_M9, ↓onI_M10, ↓onI_M11, ↓fR_m1, ↓fR_m2, ↓fR_m3, ↓fR_m10, ↓fR_m11, ↓fR_m13, ↓fR_m14, ↓fR_m15, ↓fR_m16, ↓fR_m18, ↓fR_m19, ↓fI_m0, ↓fI_m4, ↓fI_m5, ↓fI_m6, ↓fI_m7, ↓fI_m8, ↓fI_m9, ↓fI_m12, ↓fI_m17, ↓fI_m20, ↓fI_m21, ↓fI_m22, ↓fI_m23,
    MHu_0, MHu_1, MHu_2, MHu_3, MHu_4, MHu_5, MHu_6, MHu_7, MHu_8, MHu_9, MHu_10, MHu_11, mfs_s4, mfs_s5, mfs_s6, mfs_s7, mfs_s8, mfs_s9, mfs_s12, mfs_s17, mfs_s20, mfs_s21, mfs_s22, mfs_s23, mfs_len, Nat.reduceLT, nI_add, nI_mulN, lit32, nI_clamp, vp_in_nI, nI_ltI, nI_eq, nI_leI, Nat.reduceMul, Nat.zero_add, Nat.add_zero, L_Mod_known_1]
      refine ⟨fun q => ?_, fun q => ?_⟩
      · refine ⟨fun q3 => ?_, fun q3 => ?_⟩
        · exact hP (m - 1) _ _ (by omega) ⟨p + 1, _, by omega, by rw [allR_t q, hasR_t ⟨q, q3⟩], rfl⟩
        · exact hP (m - 1) _ _ (by omega) ⟨p + 1, _, by omega, by rw [allR_t q, hasR_f (fun w => q3 w.2)], rfl⟩
      · exact hP (m - 1) _ _ (by omega) ⟨p + 1, _, by omega, by rw [allR_f q, hasR_f (fun w => q w.1)], rfl⟩
    · have : p = n := by omega
      subst this
      refine for_rule (fun m env σ => ∃ (k : Nat) (has : Int32) (x5 x6 x7 : Option Value), k + m = 21 ∧ knR S p (allR S x p) has k m = knR S p (allR S x p) (hasR S x p) 0 21 ∧ env = [some (.ref (mB X)), some (.int (nI x)), some (.int (allR S x p)), some (.int has), some (.int (nI k)), x5, x6, x7] ∧ σ = (MH X h i S I F B T r, g)) 21 ⟨0, _, _, _, _, by omega, rfl, rfl, rfl⟩ ?_
      clear hP
      rintro m env σ P ⟨k, has, x5, x6, x7, hk, he, rfl, rfl⟩ hP
      simp (disch := omega) only [↓sSeq, ↓sI_f, ↓sL_f, ↓sR_f, ↓sInc_f, fE_c, eset_0, eset_1i, eset_1r, eset_1n, eset_1l, eset_ss, ↓sIf, ↓sBrk, ↓sCnt, ↓sRetI, ↓sRetL, ↓sRetR, ↓sRet, ↓sRetZ, ↓sSkip, ↓sSw, ↓sK, ↓sPop, ↓sFor_t, ↓sast, ↓sastC, ↓szst, ↓spst, ↓sput, ↓sputZ, ↓sputR, ↓sputN, ↓sputC, ↓sCopy,
    ↓xi, ↓xl, ↓xr, ↓xc, ↓xcl, ↓xadd, ↓xsub, ↓xmul, ↓xdiv, ↓xrem, ↓xand, ↓xor, ↓xxor, ↓xshl, ↓xshr, ↓xneg, ↓xaddl, ↓xsubl, ↓xmull, ↓xdivl, ↓xreml, ↓xnegl, ↓xi2l, ↓xi2c, ↓xofC, ↓xite, ↓xitel, ↓xiter, ↓xmax, ↓xmin, ↓xabs, ↓xabsl,
    ↓xg, ↓xgR, ↓xgO, ↓oR, ↓xald, ↓xzld, ↓xpld, ↓xlen, ↓xstr, ↓xinst, ↓cNot, ↓cAnd, ↓cOr, ↓cEq, ↓cLt, ↓cGt, ↓cEq0, ↓cLt0, ↓cGt0, ↓cEqL, ↓cLtL, ↓cGtL, ↓cEqO,
    ↓kI, ↓kL, ↓kR, ↓kV, ↓kS, ↓kD, ↓kP, ↓kT, ↓CALL_t, ↓vI, ↓vL, ↓vR, ↓aN, ↓aC, aenv_i, aenv_l, aenv_r, aenv_0, List.replicate, Nat.reduceSub, Nat.reduceAdd, eset2, kill, List.set_cons_zero, List.set_cons_succ, List.set_nil, List.getElem?_cons_zero, List.getElem?_cons_succ, List.getElem?_nil, List.mem_cons, List.not_mem_nil, or_false, or_true, true_and, and_true, true_or, false_or, false_and, and_false, not_false_eq_true, not_true_eq_false, forall_const, false_imp_iff, imp_false, true_imp_iff, if_true, if_false, implies_true, reduceIte, reduceCtorEq,
    ↓onO_M, ↓onI_M1, ↓onI_M2, ↓onI_M3, ↓onI_M4, ↓onZ_M5, ↓onI_M6, ↓onI_M7, ↓onI_M8, ↓onI_M9, ↓onI_M10, ↓onI_M11, ↓fR_m1, ↓fR_m2, ↓fR_m3, ↓fR_m10, ↓fR_m11, ↓fR_m13, ↓fR_m14, ↓fR_m15, ↓fR_m16, ↓fR_m18, ↓fR_m19, ↓fI_m0, ↓fI_m4, ↓fI_m5, ↓fI_m6, ↓fI_m7, ↓fI_m8, ↓fI_m9, ↓fI_m12, ↓fI_m17, ↓fI_m20, ↓fI_m21, ↓fI_m22, ↓fI_m23,
    MHu_0, MHu_1, MHu_2, MHu_3, MHu_4, MHu_5, MHu_6, MHu_7, MHu_8, MHu_9, MHu_10, MHu_11, mfs_s4, mfs_s5, mfs_s6, mfs_s7, mfs_s8, mfs_s9, mfs_s12, mfs_s17, mfs_s20, mfs_s21, mfs_s22, mfs_s23, mfs_len, Nat.reduceLT, nI_add, nI_mulN, lit32, nI_clamp, vp_in_nI, nI_ltI, nI_eq, nI_leI, Nat.reduceMul, Nat.zero_add, Nat.add_zero]
      refine ⟨fun z => ?_, fun z => ?_⟩
      · have : m = 0 := by omega
        subst this
        have he : -nI 5 = _ := he
        rw [he]; exact hK
      · obtain ⟨m, rfl⟩ : ∃ m', m = m' + 1 := ⟨m - 1, by omega⟩
        simp (disch := omega) only [↓sSeq, ↓sI_f, ↓sL_f, ↓sR_f, ↓sInc_f, fE_c, eset_0, eset_1i, eset_1r, eset_1n, eset_1l, eset_ss, ↓sIf, ↓sBrk, ↓sCnt, ↓sRetI, ↓sRetL, ↓sRetR, ↓sRet, ↓sRetZ, ↓sSkip, ↓sSw, ↓sK, ↓sPop, ↓sFor_t, ↓sast, ↓sastC, ↓szst, ↓spst, ↓sput, ↓sputZ, ↓sputR, ↓sputN, ↓sputC, ↓sCopy,
    ↓xi, ↓xl, ↓xr, ↓xc, ↓xcl, ↓xadd, ↓xsub, ↓xmul, ↓xdiv, ↓xrem, ↓xand, ↓xor, ↓xxor, ↓xshl, ↓xshr, ↓xneg, ↓xaddl, ↓xsubl, ↓xmull, ↓xdivl, ↓xreml, ↓xnegl, ↓xi2l, ↓xi2c, ↓xofC, ↓xite, ↓xitel, ↓xiter, ↓xmax, ↓xmin, ↓xabs, ↓xabsl,
    ↓xg, ↓xgR, ↓xgO, ↓oR, ↓xald, ↓xzld, ↓xpld, ↓xlen, ↓xstr, ↓xinst, ↓cNot, ↓cAnd, ↓cOr, ↓cEq, ↓cLt, ↓cGt, ↓cEq0, ↓cLt0, ↓cGt0, ↓cEqL, ↓cLtL, ↓cGtL, ↓cEqO,
    ↓kI, ↓kL, ↓kR, ↓kV, ↓kS, ↓kD, ↓kP, ↓kT, ↓CALL_t, ↓vI, ↓vL, ↓vR, ↓aN, ↓aC, aenv_i, aenv_l, aenv_r, aenv_0, List.replicate, Nat.reduceSub, Nat.reduceAdd, eset2, kill, List.set_cons_zero, List.set_cons_succ, List.set_nil, List.getElem?_cons_zero, List.getElem?_cons_succ, List.getElem?_nil, List.mem_cons, List.not_mem_nil, or_false, or_true, true_and, and_true, true_or, false_or, false_and, and_false, not_false_eq_true, not_true_eq_false, forall_const, false_imp_iff, imp_false, true_imp_iff, if_true, if_false, implies_true, reduceIte, reduceCtorEq,
    ↓onO_M, ↓onI_M1, ↓onI_M2, ↓onI_M3, ↓onI_M4, ↓onZ_M5, ↓onI_M6, ↓onI_M7, ↓onI_M8, ↓onI_M9, ↓onI_M10, ↓onI_M11, ↓fR_m1, ↓fR_m2, ↓fR_m3, ↓fR_m10, ↓fR_m11, ↓fR_m13, ↓fR_m14, ↓fR_m15, ↓fR_m16, ↓fR_m18, ↓fR_m19, ↓fI_m0, ↓fI_m4, ↓fI_m5, ↓fI_m6, ↓fI_m7, ↓fI_m8, ↓fI_m9, ↓fI_m12, ↓fI_m17, ↓fI_m20, ↓fI_m21, ↓fI_m22, ↓fI_m23,
    MHu_0, MHu_1, MHu_2, MHu_3, MHu_4, MHu_5, MHu_6, MHu_7, MHu_8, MHu_9, MHu_10, MHu_11, mfs_s4, mfs_s5, mfs_s6, mfs_s7, mfs_s8, mfs_s9, mfs_s12, mfs_s17, mfs_s20, mfs_s21, mfs_s22, mfs_s23, mfs_len, Nat.reduceLT, nI_add, nI_mulN, lit32, nI_clamp, vp_in_nI, nI_ltI, nI_eq, nI_leI, Nat.reduceMul, Nat.zero_add, Nat.add_zero, L_Mod_known_3]
        refine ⟨fun q => ?_, fun q => ?_⟩
        · have he2 : (if has = allR S x p then nI k else knR S p (allR S x p) (thenR S p has p) (k + 1) m) = _ := he
          rw [if_pos q] at he2
          rw [he2]; exact hK
        · have he2 : (if has = allR S x p then nI k else knR S p (allR S x p) (thenR S p has p) (k + 1) m) = _ := he
          rw [if_neg q] at he2
          refine for_rule (fun m env σ => ∃ (j : Nat) (x7 : Option Value), j + m = p ∧ env = [some (.ref (mB X)), some (.int (nI x)), some (.int (allR S x p)), some (.int has), some (.int (nI k)), some (.int (thenR S p has j)), some (.int (nI j)), x7] ∧ σ = (MH X h i S I F B T r, g)) p ⟨0, _, by omega, rfl, rfl⟩ ?_
          rintro m2 env σ P2 ⟨j, x7, hj, rfl, rfl⟩ hP2
          simp (disch := omega) only [↓sSeq, ↓sI_f, ↓sL_f, ↓sR_f, ↓sInc_f, fE_c, eset_0, eset_1i, eset_1r, eset_1n, eset_1l, eset_ss, ↓sIf, ↓sBrk, ↓sCnt, ↓sRetI, ↓sRetL, ↓sRetR, ↓sRet, ↓sRetZ, ↓sSkip, ↓sSw, ↓sK, ↓sPop, ↓sFor_t, ↓sast, ↓sastC, ↓szst, ↓spst, ↓sput, ↓sputZ, ↓sputR, ↓sputN, ↓sputC, ↓sCopy,
    ↓xi, ↓xl, ↓xr, ↓xc, ↓xcl, ↓xadd, ↓xsub, ↓xmul, ↓xdiv, ↓xrem, ↓xand, ↓xor, ↓xxor, ↓xshl, ↓xshr, ↓xneg, ↓xaddl, ↓xsubl, ↓xmull, ↓xdivl, ↓xreml, ↓xnegl, ↓xi2l, ↓xi2c, ↓xofC, ↓xite, ↓xitel, ↓xiter, ↓xmax, ↓xmin, ↓xabs, ↓xabsl,
    ↓xg, ↓xgR, ↓xgO, ↓oR, ↓xald, ↓xzld, ↓xpld, ↓xlen, ↓xstr, ↓xinst, ↓cNot, ↓cAnd, ↓cOr, ↓cEq, ↓cLt, ↓cGt, ↓cEq0, ↓cLt0, ↓cGt0, ↓cEqL, ↓cLtL, ↓cGtL, ↓cEqO,
    ↓kI, ↓kL, ↓kR, ↓kV, ↓kS, ↓kD, ↓kP, ↓kT, ↓CALL_t, ↓vI, ↓vL, ↓vR, ↓aN, ↓aC, aenv_i, aenv_l, aenv_r, aenv_0, List.replicate, Nat.reduceSub, Nat.reduceAdd, eset2, kill, List.set_cons_zero, List.set_cons_succ, List.set_nil, List.getElem?_cons_zero, List.getElem?_cons_succ, List.getElem?_nil, List.mem_cons, List.not_mem_nil, or_false, or_true, true_and, and_true, true_or, false_or, false_and, and_false, not_false_eq_true, not_true_eq_false, forall_const, false_imp_iff, imp_false, true_imp_iff, if_true, if_false, implies_true, reduceIte, reduceCtorEq,
    ↓onO_M, ↓onI_M1, ↓onI_M2, ↓onI_M3, ↓onI_M4, ↓onZ_M5, ↓onI_M6, ↓onI_M7, ↓onI_M8, ↓onI_M9, ↓onI_M10, ↓onI_M11, ↓fR_m1, ↓fR_m2, ↓fR_m3, ↓fR_m10, ↓fR_m11, ↓fR_m13, ↓fR_m14, ↓fR_m15, ↓fR_m16, ↓fR_m18, ↓fR_m19, ↓fI_m0, ↓fI_m4, ↓fI_m5, ↓fI_m6, ↓fI_m7, ↓fI_m8, ↓fI_m9, ↓fI_m12, ↓fI_m17, ↓fI_m20, ↓fI_m21, ↓fI_m22, ↓fI_m23,
    MHu_0, MHu_1, MHu_2, MHu_3, MHu_4, MHu_5, MHu_6, MHu_7, MHu_8, MHu_9, MHu_10, MHu_11, mfs_s4, mfs_s5, mfs_s6, mfs_s7, mfs_s8, mfs_s9, mfs_s12, mfs_s17, mfs_s20, mfs_s21, mfs_s22, mfs_s23, mfs_len, Nat.reduceLT, nI_add, nI_mulN, lit32, nI_clamp, vp_in_nI, nI_ltI, nI_eq, nI_leI, Nat.reduceMul, Nat.zero_add, Nat.add_zero, hS]
          refine ⟨fun z => ?_, fun z => ?_⟩
          · have fin' : ∀ v : Int32, v = qR S p has j → (v = -nI 1 → P2 [some (.ref (mB X)), some (.int (nI x)), some (.int (allR S x p)), some (.int has), some (.int (nI k)), some (.int (thenR S p has j ||| nI 0)), some (.int (nI (j + 1))), some (.int v)] (MH X h i S I F B T r, g)) ∧ (¬ v = -nI 1 → P2 [some (.ref (mB X)), some (.int (nI x)), some (.int (allR S x p)), some (.int has), some (.int (nI k)), some (.int (thenR S p has j ||| jshl (nI 1) v)), some (.int (nI (j + 1))), some (.int v)] (MH X h i S I F B T r, g)) := by
              intro v hv
              refine ⟨fun w => ?_, fun w => ?_⟩
              · exact hP2 (m2 - 1) _ _ (by omega) ⟨j + 1, some (.int v), by omega, by rw [thenR_n (by rw [← hv]; exact w)], rfl⟩
              · exact hP2 (m2 - 1) _ _ (by omega) ⟨j + 1, some (.int v), by omega, by rw [thenR_q (by rw [← hv]; exact w), ← hv], rfl⟩
            simp (disch := omega) only [↓sSeq, ↓sI_f, ↓sL_f, ↓sR_f, ↓sInc_f, fE_c, eset_0, eset_1i, eset_1r, eset_1n, eset_1l, eset_ss, ↓sIf, ↓sBrk, ↓sCnt, ↓sRetI, ↓sRetL, ↓sRetR, ↓sRet, ↓sRetZ, ↓sSkip, ↓sSw, ↓sK, ↓sPop, ↓sFor_t, ↓sast, ↓sastC, ↓szst, ↓spst, ↓sput, ↓sputZ, ↓sputR, ↓sputN, ↓sputC, ↓sCopy,
    ↓xi, ↓xl, ↓xr, ↓xc, ↓xcl, ↓xadd, ↓xsub, ↓xmul, ↓xdiv, ↓xrem, ↓xand, ↓xor, ↓xxor, ↓xshl, ↓xshr, ↓xneg, ↓xaddl, ↓xsubl, ↓xmull, ↓xdivl, ↓xreml, ↓xnegl, ↓xi2l, ↓xi2c, ↓xofC, ↓xite, ↓xitel, ↓xiter, ↓xmax, ↓xmin, ↓xabs, ↓xabsl,
    ↓xg, ↓xgR, ↓xgO, ↓oR, ↓xald, ↓xzld, ↓xpld, ↓xlen, ↓xstr, ↓xinst, ↓cNot, ↓cAnd, ↓cOr, ↓cEq, ↓cLt, ↓cGt, ↓cEq0, ↓cLt0, ↓cGt0, ↓cEqL, ↓cLtL, ↓cGtL, ↓cEqO,
    ↓kI, ↓kL, ↓kR, ↓kV, ↓kS, ↓kD, ↓kP, ↓kT, ↓CALL_t, ↓vI, ↓vL, ↓vR, ↓aN, ↓aC, aenv_i, aenv_l, aenv_r, aenv_0, List.replicate, Nat.reduceSub, Nat.reduceAdd, eset2, kill, List.set_cons_zero, List.set_cons_succ, List.set_nil, List.getElem?_cons_zero, List.getElem?_cons_succ, List.getElem?_nil, List.mem_cons, List.not_mem_nil, or_false, or_true, true_and, and_true, true_or, false_or, false_and, and_false, not_false_eq_true, not_true_eq_false, forall_const, false_imp_iff, imp_false, true_imp_iff, if_true, if_false, implies_true, reduceIte, reduceCtorEq,
    ↓onO_M, ↓onI_M1, ↓onI_M2, ↓onI_M3, ↓onI_M4, ↓onZ_M5, ↓onI_M6, ↓onI_M7, ↓onI_M8, ↓onI_M9, ↓onI_M10, ↓onI_M11, ↓fR_m1, ↓fR_m2, ↓fR_m3, ↓fR_m10, ↓fR_m11, ↓fR_m13, ↓fR_m14, ↓fR_m15, ↓fR_m16, ↓fR_m18, ↓fR_m19, ↓fI_m0, ↓fI_m4, ↓fI_m5, ↓fI_m6, ↓fI_m7, ↓fI_m8, ↓fI_m9, ↓fI_m12, ↓fI_m17, ↓fI_m20, ↓fI_m21, ↓fI_m22, ↓fI_m23,
    MHu_0, MHu_1, MHu_2, MHu_3, MHu_4, MHu_5, MHu_6, MHu_7, MHu_8, MHu_9, MHu_10, MHu_11, mfs_s4, mfs_s5, mfs_s6, mfs_s7, mfs_s8, mfs_s9, mfs_s12, mfs_s17, mfs_s20, mfs_s21, mfs_s22, mfs_s23, mfs_len, Nat.reduceLT, nI_add, nI_mulN, lit32, nI_clamp, vp_in_nI, nI_ltI, nI_eq, nI_leI, Nat.reduceMul, Nat.zero_add, Nat.add_zero, L_Mod_known_2]
            refine ⟨fun w => ?_, fun w => ?_⟩
            · refine t_nextNot (by omega) hn hS z ?_
              simp (disch := omega) only [↓sSeq, ↓sI_f, ↓sL_f, ↓sR_f, ↓sInc_f, fE_c, eset_0, eset_1i, eset_1r, eset_1n, eset_1l, eset_ss, ↓sIf, ↓sBrk, ↓sCnt, ↓sRetI, ↓sRetL, ↓sRetR, ↓sRet, ↓sRetZ, ↓sSkip, ↓sSw, ↓sK, ↓sPop, ↓sFor_t, ↓sast, ↓sastC, ↓szst, ↓spst, ↓sput, ↓sputZ, ↓sputR, ↓sputN, ↓sputC, ↓sCopy,
    ↓xi, ↓xl, ↓xr, ↓xc, ↓xcl, ↓xadd, ↓xsub, ↓xmul, ↓xdiv, ↓xrem, ↓xand, ↓xor, ↓xxor, ↓xshl, ↓xshr, ↓xneg, ↓xaddl, ↓xsubl, ↓xmull, ↓xdivl, ↓xreml, ↓xnegl, ↓xi2l, ↓xi2c, ↓xofC, ↓xite, ↓xitel, ↓xiter, ↓xmax, ↓xmin, ↓xabs, ↓xabsl,
    ↓xg, ↓xgR, ↓xgO, ↓oR, ↓xald, ↓xzld, ↓xpld, ↓xlen, ↓xstr, ↓xinst, ↓cNot, ↓cAnd, ↓cOr, ↓cEq, ↓cLt, ↓cGt, ↓cEq0, ↓cLt0, ↓cGt0, ↓cEqL, ↓cLtL, ↓cGtL, ↓cEqO,
    ↓kI, ↓kL, ↓kR, ↓kV, ↓kS, ↓kD, ↓kP, ↓kT, ↓CALL_t, ↓vI, ↓vL, ↓vR, ↓aN, ↓aC, aenv_i, aenv_l, aenv_r, aenv_0, List.replicate, Nat.reduceSub, Nat.reduceAdd, eset2, kill, List.set_cons_zero, List.set_cons_succ, List.set_nil, List.getElem?_cons_zero, List.getElem?_cons_succ, List.getElem?_nil, List.mem_cons, List.not_mem_nil, or_false, or_true, true_and, and_true, true_or, false_or, false_and, and_false, not_false_eq_true, not_true_eq_false, forall_const, false_imp_iff, imp_false, true_imp_iff, if_true, if_false, implies_true, reduceIte, reduceCtorEq,
    ↓onO_M, ↓onI_M1, ↓onI_M2, ↓onI_M3, ↓onI_M4, ↓onZ_M5, ↓onI_M6, ↓onI_M7, ↓onI_M8, ↓onI_M9, ↓onI_M10, ↓onI_M11, ↓fR_m1, ↓fR_m2, ↓fR_m3, ↓fR_m10, ↓fR_m11, ↓fR_m13, ↓fR_m14, ↓fR_m15, ↓fR_m16, ↓fR_m18, ↓fR_m19, ↓fI_m0, ↓fI_m4, ↓fI_m5, ↓fI_m6, ↓fI_m7, ↓fI_m8, ↓fI_m9, ↓fI_m12, ↓fI_m17, ↓fI_m20, ↓fI_m21, ↓fI_m22, ↓fI_m23,
    MHu_0, MHu_1, MHu_2, MHu_3, MHu_4, MHu_5, MHu_6, MHu_7, MHu_8, MHu_9, MHu_10, MHu_11, mfs_s4, mfs_s5, mfs_s6, mfs_s7, mfs_s8, mfs_s9, mfs_s12, mfs_s17, mfs_s20, mfs_s21, mfs_s22, mfs_s23, mfs_len, Nat.reduceLT, nI_add, nI_mulN, lit32, nI_clamp, vp_in_nI, nI_ltI, nI_eq, nI_leI, Nat.reduceMul, Nat.zero_add, Nat.add_zero]
              exact fin' _ (by unfold qR; rw [if_pos w])
            · exact (fin' (-nI 1) (by unfold qR; rw [if_neg w])).1 rfl
          · have : j = p := by omega
            subst this
            exact hP m _ _ (by omega) ⟨k + 1, thenR S j has j, _, _, _, by omega, he2, rfl, rfl⟩
  · simp (disch := omega) only [↓sSeq, ↓sI_f, ↓sL_f, ↓sR_f, ↓sInc_f, fE_c, eset_0, eset_1i, eset_1r, eset_1n, eset_1l, eset_ss, ↓sIf, ↓sBrk, ↓sCnt, ↓sRetI, ↓sRetL, ↓sRetR, ↓sRet, ↓sRetZ, ↓sSkip, ↓sSw, ↓sK, ↓sPop, ↓sFor_t, ↓sast, ↓sastC, ↓szst, ↓spst, ↓sput, ↓sputZ, ↓sputR, ↓sputN, ↓sputC, ↓sCopy,
    ↓xi, ↓xl, ↓xr, ↓xc, ↓xcl, ↓xadd, ↓xsub, ↓xmul, ↓xdiv, ↓xrem, ↓xand, ↓xor, ↓xxor, ↓xshl, ↓xshr, ↓xneg, ↓xaddl, ↓xsubl, ↓xmull, ↓xdivl, ↓xreml, ↓xnegl, ↓xi2l, ↓xi2c, ↓xofC, ↓xite, ↓xitel, ↓xiter, ↓xmax, ↓xmin, ↓xabs, ↓xabsl,
    ↓xg, ↓xgR, ↓xgO, ↓oR, ↓xald, ↓xzld, ↓xpld, ↓xlen, ↓xstr, ↓xinst, ↓cNot, ↓cAnd, ↓cOr, ↓cEq, ↓cLt, ↓cGt, ↓cEq0, ↓cLt0, ↓cGt0, ↓cEqL, ↓cLtL, ↓cGtL, ↓cEqO,
    ↓kI, ↓kL, ↓kR, ↓kV, ↓kS, ↓kD, ↓kP, ↓kT, ↓CALL_t, ↓vI, ↓vL, ↓vR, ↓aN, ↓aC, aenv_i, aenv_l, aenv_r, aenv_0, List.replicate, Nat.reduceSub, Nat.reduceAdd, eset2, kill, List.set_cons_zero, List.set_cons_succ, List.set_nil, List.getElem?_cons_zero, List.getElem?_cons_succ, List.getElem?_nil, List.mem_cons, List.not_mem_nil, or_false, or_true, true_and, and_true, true_or, false_or, false_and, and_false, not_false_eq_true, not_true_eq_false, forall_const, false_imp_iff, imp_false, true_imp_iff, if_true, if_false, implies_true, reduceIte, reduceCtorEq,
    ↓onO_M, ↓onI_M1, ↓onI_M2, ↓onI_M3, ↓onI_M4, ↓onZ_M5, ↓onI_M6, ↓onI_M7, ↓onI_M8, ↓onI_M9, ↓onI_M10, ↓onI_M11, ↓fR_m1, ↓fR_m2, ↓fR_m3, ↓fR_m10, ↓fR_m11, ↓fR_m13, ↓fR_m14, ↓fR_m15, ↓fR_m16, ↓fR_m18, ↓fR_m19, ↓fI_m0, ↓fI_m4, ↓fI_m5, ↓fI_m6, ↓fI_m7, ↓fI_m8, ↓fI_m9, ↓fI_m12, ↓fI_m17, ↓fI_m20, ↓fI_m21, ↓fI_m22, ↓fI_m23,
    MHu_0, MHu_1, MHu_2, MHu_3, MHu_4, MHu_5, MHu_6, MHu_7, MHu_8, MHu_9, MHu_10, MHu_11, mfs_s4, mfs_s5, mfs_s6, mfs_s7, mfs_s8, mfs_s9, mfs_s12, mfs_s17, mfs_s20, mfs_s21, mfs_s22, mfs_s23, mfs_len, Nat.reduceLT, nI_add, nI_mulN, lit32, nI_clamp, vp_in_nI, nI_ltI, nI_eq, nI_leI, Nat.reduceMul, Nat.zero_add, Nat.add_zero]
    simp [hi] at hK
    exact hK
end KNOWS
