section INITFC
variable {X : WX} {d : Nat} {h : HM} {K : Option Value → HM → Nat → Prop}
theorem CH_self {H : HM} {st : Nat → SR} {nt : Nat → Nat → Int32} {t : Nat × (Nat → Int32)} {im : Int32} (f0 : H (bA X) = some (ob 0 (ffs X im))) (fn : ∀ k j, k < 2 → j < 9 → H (NB X k + j) = some (ncell X (NB X k) (nt k) j)) (f1 : H (TB X) = some (ob 2 (tfs X t))) (f2 : H (TB X + 1) = some (iA X 20 t.2)) (fs : ∀ k j, k < 4 → j < 6 → H (SB X k + j) = some (scell X (SB X k) (st k) j)) : CH X H st nt t im = H := by
  funext p
  by_cases q : (bA X ≤ p ∧ p < bA X + 21) ∨ (bA X + 29 ≤ p ∧ p < bA X + 53)
  · rcases (by omega : p = bA X ∨ (bA X < p ∧ p < bA X + 19) ∨ p = bA X + 19 ∨ p = bA X + 20 ∨ (bA X + 29 ≤ p ∧ p < bA X + 53)) with z | z | z | z | z
    · subst z; rw [CH_F, f0]
    · obtain ⟨k, j, hk, hj, rfl⟩ : ∃ k j, k < 2 ∧ j < 9 ∧ p = NB X k + j := ⟨(p - bA X - 1) / 9, (p - bA X - 1) % 9, by omega, by omega, by unfold NB; unfold bA at z ⊢; omega⟩
      rw [CH_N hk hj, fn k j hk hj]
    · have : p = TB X := z
      subst this; rw [CH_T, f1]
    · have : p = TB X + 1 := z
      subst this; rw [CH_T1, f2]
    · obtain ⟨k, j, hk, hj, rfl⟩ : ∃ k j, k < 4 ∧ j < 6 ∧ p = SB X k + j := ⟨(p - bA X - 29) / 6, (p - bA X - 29) % 6, by omega, by omega, by unfold SB; unfold bA at z ⊢; omega⟩
      rw [CH_S hk hj, fs k j hk hj]
  · unfold CH; rw [if_neg q]
theorem onO_BK {a n b : Nat} {f : Nat → va_E} {P : Nat → List Value → Prop} (q : ¬ (a ≤ b ∧ b < a + n)) : onO (BK h a n f b) P = onO (h b) P := by rw [BK_o q]
theorem onO_RHo {a tx b e : Nat} {vals : Nat → Int32} {l ea : Int32} {z : PSt} {P : Nat → List Value → Prop} (q : ¬ (a ≤ b ∧ b ≤ a + 4)) : onO (RH X h a tx vals e l ea z b) P = onO (h b) P := by rw [RH_o q]
theorem PN0_o {a k n b : Nat} {v : Int32} (q : ¬ (a ≤ b ∧ b ≤ a + 1)) : PN0 X h a k n v b = h b := by unfold PN0; rw [up_n (by omega), up_n (by omega)]
theorem onO_PNo {a k n b : Nat} {v : Int32} {P : Nat → List Value → Prop} (q : ¬ (a ≤ b ∧ b ≤ a + 1)) : onO (PN0 X h a k n v b) P = onO (h b) P := by rw [PN0_o q]
theorem PN0_s {a k n : Nat} {v : Int32} : PN0 X h a k n v a = some (ob (4 + k) (pfs a (k, (n, v)) none)) := by unfold PN0; rw [up_n (by omega), up_s]
theorem PN0_t {a k n : Nat} {v : Int32} : PN0 X h a k n v (a + 1) = some (iA X 140 (fun _ => 0)) := by unfold PN0; rw [up_s]
/-- what a new class's cells tell -/
def FC0 (X : WX) (H : HM) : Prop := H (bA X) = some (ob 0 (ffs X (nI 0))) ∧ (∀ k j, k < 2 → j < 9 → H (NB X k + j) = some (ncell X (NB X k) S0 j)) ∧ H (TB X) = some (ob 2 (tfs X (0, fun _ => 0))) ∧ H (TB X + 1) = some (iA X 20 (fun _ => 0)) ∧ (∀ k j, k < 4 → j < 6 → H (SB X k + j) = some (scell X (SB X k) (S0, (six 6 (bA X + 27), bA X + 21)) j)) ∧ (∀ j, j ≤ 4 → H (bA X + 21 + j) = some (hcell X (bA X + 21) (bA X + 26) (fun _ => 0) 0 (nI 3) (nI 1) (0, (false, [])) j)) ∧ H (bA X + 27) = some (ob 4 (pfs (bA X + 27) (0, (0, nI 0)) none)) ∧ H (bA X + 28) = some (iA X 140 (fun _ => 0))
theorem t_FCI (hd : 8 ≤ d) (ha : h (bA X) = some (ob 0 z_FC)) (hK : ∀ H, FC0 X H → (∀ p, p < bA X ∨ bA X + 53 ≤ p → H p = h p) → K none H (bA X + 53)) : CALLA X M_FC_init d 52 825 [.ref (bA X)] h (bA X + 1) K := by
  obtain ⟨d, rfl⟩ : ∃ e, d = e + 1 := ⟨d - 1, by omega⟩
  refine callA_of (by decide +kernel) (by decide) (F_FC_init X d) (Nat.le_of_ble_eq_true rfl) ?_
  have h0 := fun P => onO_h (P := P) ha
  obtain ⟨B, hB⟩ : ∃ B, bA X = B := ⟨_, rfl⟩
  have eN0 : NB X 0 = B + 1 := hB ▸ rfl
  have eN1 : NB X 1 = B + 1 + 9 := hB ▸ rfl
  have eT : TB X = B + 1 + 9 + 9 := hB ▸ rfl
  have eS0 : SB X 0 = B + 1 + 9 + 9 + 2 + 6 + 2 := hB ▸ rfl
  have eS1 : SB X 1 = B + 1 + 9 + 9 + 2 + 6 + 2 + 6 := hB ▸ rfl
  have eS2 : SB X 2 = B + 1 + 9 + 9 + 2 + 6 + 2 + 6 + 6 := hB ▸ rfl
  have eS3 : SB X 3 = B + 1 + 9 + 9 + 2 + 6 + 2 + 6 + 6 + 6 := hB ▸ rfl
  unfold FC0 ffs tfs at hK
  rw [hB] at ha h0 hK ⊢
  simp (disch := omega) only [↓sSeq, ↓sI_f, ↓sL_f, ↓sR_f, ↓sInc_f, fE_c, eset_0, eset_1i, eset_1r, eset_1n, eset_1l, eset_ss, ↓sIf, ↓sBrk, ↓sCnt, ↓sRetI, ↓sRetL, ↓sRetR, ↓sRet, ↓sRetZ, ↓sSkip, ↓sSw, ↓sK, ↓sPop, ↓sFor_t, ↓sast, ↓sastC, ↓szst, ↓spst, ↓sput, ↓sputZ, ↓sputR, ↓sputN, ↓sputC, ↓sCopy,
    ↓xi, ↓xl, ↓xr, ↓xc, ↓xcl, ↓xadd, ↓xsub, ↓xmul, ↓xdiv, ↓xrem, ↓xand, ↓xor, ↓xxor, ↓xshl, ↓xshr, ↓xneg, ↓xaddl, ↓xsubl, ↓xmull, ↓xdivl, ↓xreml, ↓xnegl, ↓xi2l, ↓xi2c, ↓xofC, ↓xite, ↓xitel, ↓xiter, ↓xmax, ↓xmin, ↓xabs, ↓xabsl,
    ↓xg, ↓xgR, ↓xgO, ↓oR, ↓xald, ↓xzld, ↓xpld, ↓xlen, ↓xstr, ↓xinst, ↓cNot, ↓cAnd, ↓cOr, ↓cEq, ↓cLt, ↓cGt, ↓cEq0, ↓cLt0, ↓cGt0, ↓cEqL, ↓cLtL, ↓cGtL, ↓cEqO,
    ↓kI, ↓kL, ↓kR, ↓kV, ↓kS, ↓kD_e, ↓kP, ↓kT, ↓CALL_t, ↓vI, ↓vL, ↓vR, ↓aN, ↓aC, aenv_i, aenv_l, aenv_r, aenv_0, List.replicate, Nat.reduceSub, Nat.reduceAdd, eset2, kill, List.set_cons_zero, List.set_cons_succ, List.set_nil, List.getElem?_cons_zero, List.getElem?_cons_succ, List.getElem?_nil, List.mem_cons, List.not_mem_nil, or_false, or_true, true_and, and_true, true_or, false_or, false_and, and_false, not_false_eq_true, not_true_eq_false, forall_const, false_imp_iff, imp_false, true_imp_iff, if_true, if_false, implies_true, reduceIte, reduceCtorEq,
    ↓fI_h0, ↓fI_h1, ↓fR_h2, ↓fR_h3, ↓fI_h4, ↓fR_h5, ↓fI_h6, ↓fR_h7, ↓fR_h8, ↓fI_h9, ↓fI_h10, ↓fI_p0, ↓fI_p1, ↓fR_p2, ↓fO_p3, hfs_s0, hfs_s1, hfs_s4, hfs_s6, hfs_s8, hfs_s9, hfs_s10, hfs_len, pfs_len, pfs_s3, Nat.reduceLT, Nat.reduceEqDiff, nI_add, nI_mulN, lit32, nI_clamp, vp_in_nI, nI_ltI, nI_eq, nI_leI, Nat.reduceMul, Nat.zero_add, Nat.add_zero, ↓xNew, ↓xNewI, ↓xNewZ, ↓xNewP, ↓sObj, ↓kVA, ↓kSA, ↓sCtor, ↓sRetR, ↓CALLA_t, rmOf, Nat.reduceLeDiff, Nat.not_lt_zero, ↓onO_us, ↓onO_un2, List.length_cons, List.length_nil, B_FC_init, M_FC_init, ↓h0, z_FC, ↓sputZ, ↓onO_BK, ↓onO_RHo, ↓onO_PNo]
  refine t_notesI (by omega) up_s ⟨rfl, ?_⟩
  simp (disch := omega) only [↓sSeq, ↓sI_f, ↓sL_f, ↓sR_f, ↓sInc_f, fE_c, eset_0, eset_1i, eset_1r, eset_1n, eset_1l, eset_ss, ↓sIf, ↓sBrk, ↓sCnt, ↓sRetI, ↓sRetL, ↓sRetR, ↓sRet, ↓sRetZ, ↓sSkip, ↓sSw, ↓sK, ↓sPop, ↓sFor_t, ↓sast, ↓sastC, ↓szst, ↓spst, ↓sput, ↓sputZ, ↓sputR, ↓sputN, ↓sputC, ↓sCopy,
    ↓xi, ↓xl, ↓xr, ↓xc, ↓xcl, ↓xadd, ↓xsub, ↓xmul, ↓xdiv, ↓xrem, ↓xand, ↓xor, ↓xxor, ↓xshl, ↓xshr, ↓xneg, ↓xaddl, ↓xsubl, ↓xmull, ↓xdivl, ↓xreml, ↓xnegl, ↓xi2l, ↓xi2c, ↓xofC, ↓xite, ↓xitel, ↓xiter, ↓xmax, ↓xmin, ↓xabs, ↓xabsl,
    ↓xg, ↓xgR, ↓xgO, ↓oR, ↓xald, ↓xzld, ↓xpld, ↓xlen, ↓xstr, ↓xinst, ↓cNot, ↓cAnd, ↓cOr, ↓cEq, ↓cLt, ↓cGt, ↓cEq0, ↓cLt0, ↓cGt0, ↓cEqL, ↓cLtL, ↓cGtL, ↓cEqO,
    ↓kI, ↓kL, ↓kR, ↓kV, ↓kS, ↓kD_e, ↓kP, ↓kT, ↓CALL_t, ↓vI, ↓vL, ↓vR, ↓aN, ↓aC, aenv_i, aenv_l, aenv_r, aenv_0, List.replicate, Nat.reduceSub, Nat.reduceAdd, eset2, kill, List.set_cons_zero, List.set_cons_succ, List.set_nil, List.getElem?_cons_zero, List.getElem?_cons_succ, List.getElem?_nil, List.mem_cons, List.not_mem_nil, or_false, or_true, true_and, and_true, true_or, false_or, false_and, and_false, not_false_eq_true, not_true_eq_false, forall_const, false_imp_iff, imp_false, true_imp_iff, if_true, if_false, implies_true, reduceIte, reduceCtorEq,
    ↓fI_h0, ↓fI_h1, ↓fR_h2, ↓fR_h3, ↓fI_h4, ↓fR_h5, ↓fI_h6, ↓fR_h7, ↓fR_h8, ↓fI_h9, ↓fI_h10, ↓fI_p0, ↓fI_p1, ↓fR_p2, ↓fO_p3, hfs_s0, hfs_s1, hfs_s4, hfs_s6, hfs_s8, hfs_s9, hfs_s10, hfs_len, pfs_len, pfs_s3, Nat.reduceLT, Nat.reduceEqDiff, nI_add, nI_mulN, lit32, nI_clamp, vp_in_nI, nI_ltI, nI_eq, nI_leI, Nat.reduceMul, Nat.zero_add, Nat.add_zero, ↓xNew, ↓xNewI, ↓xNewZ, ↓xNewP, ↓sObj, ↓kVA, ↓kSA, ↓sCtor, ↓sRetR, ↓CALLA_t, rmOf, Nat.reduceLeDiff, Nat.not_lt_zero, ↓onO_us, ↓onO_un2, List.length_cons, List.length_nil, ↓h0, ↓sputZ, ↓onO_BK, ↓onO_RHo, ↓onO_PNo, z_FC]
  refine t_notesI (by omega) up_s ⟨rfl, ?_⟩
  simp (disch := omega) only [↓sSeq, ↓sI_f, ↓sL_f, ↓sR_f, ↓sInc_f, fE_c, eset_0, eset_1i, eset_1r, eset_1n, eset_1l, eset_ss, ↓sIf, ↓sBrk, ↓sCnt, ↓sRetI, ↓sRetL, ↓sRetR, ↓sRet, ↓sRetZ, ↓sSkip, ↓sSw, ↓sK, ↓sPop, ↓sFor_t, ↓sast, ↓sastC, ↓szst, ↓spst, ↓sput, ↓sputZ, ↓sputR, ↓sputN, ↓sputC, ↓sCopy,
    ↓xi, ↓xl, ↓xr, ↓xc, ↓xcl, ↓xadd, ↓xsub, ↓xmul, ↓xdiv, ↓xrem, ↓xand, ↓xor, ↓xxor, ↓xshl, ↓xshr, ↓xneg, ↓xaddl, ↓xsubl, ↓xmull, ↓xdivl, ↓xreml, ↓xnegl, ↓xi2l, ↓xi2c, ↓xofC, ↓xite, ↓xitel, ↓xiter, ↓xmax, ↓xmin, ↓xabs, ↓xabsl,
    ↓xg, ↓xgR, ↓xgO, ↓oR, ↓xald, ↓xzld, ↓xpld, ↓xlen, ↓xstr, ↓xinst, ↓cNot, ↓cAnd, ↓cOr, ↓cEq, ↓cLt, ↓cGt, ↓cEq0, ↓cLt0, ↓cGt0, ↓cEqL, ↓cLtL, ↓cGtL, ↓cEqO,
    ↓kI, ↓kL, ↓kR, ↓kV, ↓kS, ↓kD_e, ↓kP, ↓kT, ↓CALL_t, ↓vI, ↓vL, ↓vR, ↓aN, ↓aC, aenv_i, aenv_l, aenv_r, aenv_0, List.replicate, Nat.reduceSub, Nat.reduceAdd, eset2, kill, List.set_cons_zero, List.set_cons_succ, List.set_nil, List.getElem?_cons_zero, List.getElem?_cons_succ, List.getElem?_nil, List.mem_cons, List.not_mem_nil, or_false, or_true, true_and, and_true, true_or, false_or, false_and, and_false, not_false_eq_true, not_true_eq_false, forall_const, false_imp_iff, imp_false, true_imp_iff, if_true, if_false, implies_true, reduceIte, reduceCtorEq,
    ↓fI_h0, ↓fI_h1, ↓fR_h2, ↓fR_h3, ↓fI_h4, ↓fR_h5, ↓fI_h6, ↓fR_h7, ↓fR_h8, ↓fI_h9, ↓fI_h10, ↓fI_p0, ↓fI_p1, ↓fR_p2, ↓fO_p3, hfs_s0, hfs_s1, hfs_s4, hfs_s6, hfs_s8, hfs_s9, hfs_s10, hfs_len, pfs_len, pfs_s3, Nat.reduceLT, Nat.reduceEqDiff, nI_add, nI_mulN, lit32, nI_clamp, vp_in_nI, nI_ltI, nI_eq, nI_leI, Nat.reduceMul, Nat.zero_add, Nat.add_zero, ↓xNew, ↓xNewI, ↓xNewZ, ↓xNewP, ↓sObj, ↓kVA, ↓kSA, ↓sCtor, ↓sRetR, ↓CALLA_t, rmOf, Nat.reduceLeDiff, Nat.not_lt_zero, ↓onO_us, ↓onO_un2, List.length_cons, List.length_nil, ↓h0, ↓sputZ, ↓onO_BK, ↓onO_RHo, ↓onO_PNo, z_FC]
  refine t_traceI (by omega) up_s ⟨rfl, ?_⟩
  simp (disch := omega) only [↓sSeq, ↓sI_f, ↓sL_f, ↓sR_f, ↓sInc_f, fE_c, eset_0, eset_1i, eset_1r, eset_1n, eset_1l, eset_ss, ↓sIf, ↓sBrk, ↓sCnt, ↓sRetI, ↓sRetL, ↓sRetR, ↓sRet, ↓sRetZ, ↓sSkip, ↓sSw, ↓sK, ↓sPop, ↓sFor_t, ↓sast, ↓sastC, ↓szst, ↓spst, ↓sput, ↓sputZ, ↓sputR, ↓sputN, ↓sputC, ↓sCopy,
    ↓xi, ↓xl, ↓xr, ↓xc, ↓xcl, ↓xadd, ↓xsub, ↓xmul, ↓xdiv, ↓xrem, ↓xand, ↓xor, ↓xxor, ↓xshl, ↓xshr, ↓xneg, ↓xaddl, ↓xsubl, ↓xmull, ↓xdivl, ↓xreml, ↓xnegl, ↓xi2l, ↓xi2c, ↓xofC, ↓xite, ↓xitel, ↓xiter, ↓xmax, ↓xmin, ↓xabs, ↓xabsl,
    ↓xg, ↓xgR, ↓xgO, ↓oR, ↓xald, ↓xzld, ↓xpld, ↓xlen, ↓xstr, ↓xinst, ↓cNot, ↓cAnd, ↓cOr, ↓cEq, ↓cLt, ↓cGt, ↓cEq0, ↓cLt0, ↓cGt0, ↓cEqL, ↓cLtL, ↓cGtL, ↓cEqO,
    ↓kI, ↓kL, ↓kR, ↓kV, ↓kS, ↓kD_e, ↓kP, ↓kT, ↓CALL_t, ↓vI, ↓vL, ↓vR, ↓aN, ↓aC, aenv_i, aenv_l, aenv_r, aenv_0, List.replicate, Nat.reduceSub, Nat.reduceAdd, eset2, kill, List.set_cons_zero, List.set_cons_succ, List.set_nil, List.getElem?_cons_zero, List.getElem?_cons_succ, List.getElem?_nil, List.mem_cons, List.not_mem_nil, or_false, or_true, true_and, and_true, true_or, false_or, false_and, and_false, not_false_eq_true, not_true_eq_false, forall_const, false_imp_iff, imp_false, true_imp_iff, if_true, if_false, implies_true, reduceIte, reduceCtorEq,
    ↓fI_h0, ↓fI_h1, ↓fR_h2, ↓fR_h3, ↓fI_h4, ↓fR_h5, ↓fI_h6, ↓fR_h7, ↓fR_h8, ↓fI_h9, ↓fI_h10, ↓fI_p0, ↓fI_p1, ↓fR_p2, ↓fO_p3, hfs_s0, hfs_s1, hfs_s4, hfs_s6, hfs_s8, hfs_s9, hfs_s10, hfs_len, pfs_len, pfs_s3, Nat.reduceLT, Nat.reduceEqDiff, nI_add, nI_mulN, lit32, nI_clamp, vp_in_nI, nI_ltI, nI_eq, nI_leI, Nat.reduceMul, Nat.zero_add, Nat.add_zero, ↓xNew, ↓xNewI, ↓xNewZ, ↓xNewP, ↓sObj, ↓kVA, ↓kSA, ↓sCtor, ↓sRetR, ↓CALLA_t, rmOf, Nat.reduceLeDiff, Nat.not_lt_zero, ↓onO_us, ↓onO_un2, List.length_cons, List.length_nil, ↓h0, ↓sputZ, ↓onO_BK, ↓onO_RHo, ↓onO_PNo, z_FC]
  refine t_houseI (by omega) up_s ⟨rfl, ?_⟩
  simp (disch := omega) only [↓sSeq, ↓sI_f, ↓sL_f, ↓sR_f, ↓sInc_f, fE_c, eset_0, eset_1i, eset_1r, eset_1n, eset_1l, eset_ss, ↓sIf, ↓sBrk, ↓sCnt, ↓sRetI, ↓sRetL, ↓sRetR, ↓sRet, ↓sRetZ, ↓sSkip, ↓sSw, ↓sK, ↓sPop, ↓sFor_t, ↓sast, ↓sastC, ↓szst, ↓spst, ↓sput, ↓sputZ, ↓sputR, ↓sputN, ↓sputC, ↓sCopy,
    ↓xi, ↓xl, ↓xr, ↓xc, ↓xcl, ↓xadd, ↓xsub, ↓xmul, ↓xdiv, ↓xrem, ↓xand, ↓xor, ↓xxor, ↓xshl, ↓xshr, ↓xneg, ↓xaddl, ↓xsubl, ↓xmull, ↓xdivl, ↓xreml, ↓xnegl, ↓xi2l, ↓xi2c, ↓xofC, ↓xite, ↓xitel, ↓xiter, ↓xmax, ↓xmin, ↓xabs, ↓xabsl,
    ↓xg, ↓xgR, ↓xgO, ↓oR, ↓xald, ↓xzld, ↓xpld, ↓xlen, ↓xstr, ↓xinst, ↓cNot, ↓cAnd, ↓cOr, ↓cEq, ↓cLt, ↓cGt, ↓cEq0, ↓cLt0, ↓cGt0, ↓cEqL, ↓cLtL, ↓cGtL, ↓cEqO,
    ↓kI, ↓kL, ↓kR, ↓kV, ↓kS, ↓kD_e, ↓kP, ↓kT, ↓CALL_t, ↓vI, ↓vL, ↓vR, ↓aN, ↓aC, aenv_i, aenv_l, aenv_r, aenv_0, List.replicate, Nat.reduceSub, Nat.reduceAdd, eset2, kill, List.set_cons_zero, List.set_cons_succ, List.set_nil, List.getElem?_cons_zero, List.getElem?_cons_succ, List.getElem?_nil, List.mem_cons, List.not_mem_nil, or_false, or_true, true_and, and_true, true_or, false_or, false_and, and_false, not_false_eq_true, not_true_eq_false, forall_const, false_imp_iff, imp_false, true_imp_iff, if_true, if_false, implies_true, reduceIte, reduceCtorEq,
    ↓fI_h0, ↓fI_h1, ↓fR_h2, ↓fR_h3, ↓fI_h4, ↓fR_h5, ↓fI_h6, ↓fR_h7, ↓fR_h8, ↓fI_h9, ↓fI_h10, ↓fI_p0, ↓fI_p1, ↓fR_p2, ↓fO_p3, hfs_s0, hfs_s1, hfs_s4, hfs_s6, hfs_s8, hfs_s9, hfs_s10, hfs_len, pfs_len, pfs_s3, Nat.reduceLT, Nat.reduceEqDiff, nI_add, nI_mulN, lit32, nI_clamp, vp_in_nI, nI_ltI, nI_eq, nI_leI, Nat.reduceMul, Nat.zero_add, Nat.add_zero, ↓xNew, ↓xNewI, ↓xNewZ, ↓xNewP, ↓sObj, ↓kVA, ↓kSA, ↓sCtor, ↓sRetR, ↓CALLA_t, rmOf, Nat.reduceLeDiff, Nat.not_lt_zero, ↓onO_us, ↓onO_un2, List.length_cons, List.length_nil, ↓h0, ↓sputZ, ↓onO_BK, ↓onO_RHo, ↓onO_PNo, z_FC]
  refine t_persI (k := 0) (n := 0) (by omega) (by omega) up_s ⟨rfl, ?_⟩
  simp (disch := omega) only [↓sSeq, ↓sI_f, ↓sL_f, ↓sR_f, ↓sInc_f, fE_c, eset_0, eset_1i, eset_1r, eset_1n, eset_1l, eset_ss, ↓sIf, ↓sBrk, ↓sCnt, ↓sRetI, ↓sRetL, ↓sRetR, ↓sRet, ↓sRetZ, ↓sSkip, ↓sSw, ↓sK, ↓sPop, ↓sFor_t, ↓sast, ↓sastC, ↓szst, ↓spst, ↓sput, ↓sputZ, ↓sputR, ↓sputN, ↓sputC, ↓sCopy,
    ↓xi, ↓xl, ↓xr, ↓xc, ↓xcl, ↓xadd, ↓xsub, ↓xmul, ↓xdiv, ↓xrem, ↓xand, ↓xor, ↓xxor, ↓xshl, ↓xshr, ↓xneg, ↓xaddl, ↓xsubl, ↓xmull, ↓xdivl, ↓xreml, ↓xnegl, ↓xi2l, ↓xi2c, ↓xofC, ↓xite, ↓xitel, ↓xiter, ↓xmax, ↓xmin, ↓xabs, ↓xabsl,
    ↓xg, ↓xgR, ↓xgO, ↓oR, ↓xald, ↓xzld, ↓xpld, ↓xlen, ↓xstr, ↓xinst, ↓cNot, ↓cAnd, ↓cOr, ↓cEq, ↓cLt, ↓cGt, ↓cEq0, ↓cLt0, ↓cGt0, ↓cEqL, ↓cLtL, ↓cGtL, ↓cEqO,
    ↓kI, ↓kL, ↓kR, ↓kV, ↓kS, ↓kD_e, ↓kP, ↓kT, ↓CALL_t, ↓vI, ↓vL, ↓vR, ↓aN, ↓aC, aenv_i, aenv_l, aenv_r, aenv_0, List.replicate, Nat.reduceSub, Nat.reduceAdd, eset2, kill, List.set_cons_zero, List.set_cons_succ, List.set_nil, List.getElem?_cons_zero, List.getElem?_cons_succ, List.getElem?_nil, List.mem_cons, List.not_mem_nil, or_false, or_true, true_and, and_true, true_or, false_or, false_and, and_false, not_false_eq_true, not_true_eq_false, forall_const, false_imp_iff, imp_false, true_imp_iff, if_true, if_false, implies_true, reduceIte, reduceCtorEq,
    ↓fI_h0, ↓fI_h1, ↓fR_h2, ↓fR_h3, ↓fI_h4, ↓fR_h5, ↓fI_h6, ↓fR_h7, ↓fR_h8, ↓fI_h9, ↓fI_h10, ↓fI_p0, ↓fI_p1, ↓fR_p2, ↓fO_p3, hfs_s0, hfs_s1, hfs_s4, hfs_s6, hfs_s8, hfs_s9, hfs_s10, hfs_len, pfs_len, pfs_s3, Nat.reduceLT, Nat.reduceEqDiff, nI_add, nI_mulN, lit32, nI_clamp, vp_in_nI, nI_ltI, nI_eq, nI_leI, Nat.reduceMul, Nat.zero_add, Nat.add_zero, ↓xNew, ↓xNewI, ↓xNewZ, ↓xNewP, ↓sObj, ↓kVA, ↓kSA, ↓sCtor, ↓sRetR, ↓CALLA_t, rmOf, Nat.reduceLeDiff, Nat.not_lt_zero, ↓onO_us, ↓onO_un2, List.length_cons, List.length_nil, ↓h0, ↓sputZ, ↓onO_BK, ↓onO_RHo, ↓onO_PNo, z_FC]
  refine t_statI (m := B + 1 + 9 + 9 + 2 + 6) (by omega) up_s (by simp (disch := omega) only [up_n, BK_o, PN0_o]; exact PN0_s) (by omega) ⟨rfl, ?_⟩
  simp (disch := omega) only [↓sSeq, ↓sI_f, ↓sL_f, ↓sR_f, ↓sInc_f, fE_c, eset_0, eset_1i, eset_1r, eset_1n, eset_1l, eset_ss, ↓sIf, ↓sBrk, ↓sCnt, ↓sRetI, ↓sRetL, ↓sRetR, ↓sRet, ↓sRetZ, ↓sSkip, ↓sSw, ↓sK, ↓sPop, ↓sFor_t, ↓sast, ↓sastC, ↓szst, ↓spst, ↓sput, ↓sputZ, ↓sputR, ↓sputN, ↓sputC, ↓sCopy,
    ↓xi, ↓xl, ↓xr, ↓xc, ↓xcl, ↓xadd, ↓xsub, ↓xmul, ↓xdiv, ↓xrem, ↓xand, ↓xor, ↓xxor, ↓xshl, ↓xshr, ↓xneg, ↓xaddl, ↓xsubl, ↓xmull, ↓xdivl, ↓xreml, ↓xnegl, ↓xi2l, ↓xi2c, ↓xofC, ↓xite, ↓xitel, ↓xiter, ↓xmax, ↓xmin, ↓xabs, ↓xabsl,
    ↓xg, ↓xgR, ↓xgO, ↓oR, ↓xald, ↓xzld, ↓xpld, ↓xlen, ↓xstr, ↓xinst, ↓cNot, ↓cAnd, ↓cOr, ↓cEq, ↓cLt, ↓cGt, ↓cEq0, ↓cLt0, ↓cGt0, ↓cEqL, ↓cLtL, ↓cGtL, ↓cEqO,
    ↓kI, ↓kL, ↓kR, ↓kV, ↓kS, ↓kD_e, ↓kP, ↓kT, ↓CALL_t, ↓vI, ↓vL, ↓vR, ↓aN, ↓aC, aenv_i, aenv_l, aenv_r, aenv_0, List.replicate, Nat.reduceSub, Nat.reduceAdd, eset2, kill, List.set_cons_zero, List.set_cons_succ, List.set_nil, List.getElem?_cons_zero, List.getElem?_cons_succ, List.getElem?_nil, List.mem_cons, List.not_mem_nil, or_false, or_true, true_and, and_true, true_or, false_or, false_and, and_false, not_false_eq_true, not_true_eq_false, forall_const, false_imp_iff, imp_false, true_imp_iff, if_true, if_false, implies_true, reduceIte, reduceCtorEq,
    ↓fI_h0, ↓fI_h1, ↓fR_h2, ↓fR_h3, ↓fI_h4, ↓fR_h5, ↓fI_h6, ↓fR_h7, ↓fR_h8, ↓fI_h9, ↓fI_h10, ↓fI_p0, ↓fI_p1, ↓fR_p2, ↓fO_p3, hfs_s0, hfs_s1, hfs_s4, hfs_s6, hfs_s8, hfs_s9, hfs_s10, hfs_len, pfs_len, pfs_s3, Nat.reduceLT, Nat.reduceEqDiff, nI_add, nI_mulN, lit32, nI_clamp, vp_in_nI, nI_ltI, nI_eq, nI_leI, Nat.reduceMul, Nat.zero_add, Nat.add_zero, ↓xNew, ↓xNewI, ↓xNewZ, ↓xNewP, ↓sObj, ↓kVA, ↓kSA, ↓sCtor, ↓sRetR, ↓CALLA_t, rmOf, Nat.reduceLeDiff, Nat.not_lt_zero, ↓onO_us, ↓onO_un2, List.length_cons, List.length_nil, ↓h0, ↓sputZ, ↓onO_BK, ↓onO_RHo, ↓onO_PNo, z_FC]
  refine t_statI (m := B + 1 + 9 + 9 + 2 + 6) (by omega) up_s (by simp (disch := omega) only [up_n, BK_o, PN0_o]; exact PN0_s) (by omega) ⟨rfl, ?_⟩
  simp (disch := omega) only [↓sSeq, ↓sI_f, ↓sL_f, ↓sR_f, ↓sInc_f, fE_c, eset_0, eset_1i, eset_1r, eset_1n, eset_1l, eset_ss, ↓sIf, ↓sBrk, ↓sCnt, ↓sRetI, ↓sRetL, ↓sRetR, ↓sRet, ↓sRetZ, ↓sSkip, ↓sSw, ↓sK, ↓sPop, ↓sFor_t, ↓sast, ↓sastC, ↓szst, ↓spst, ↓sput, ↓sputZ, ↓sputR, ↓sputN, ↓sputC, ↓sCopy,
    ↓xi, ↓xl, ↓xr, ↓xc, ↓xcl, ↓xadd, ↓xsub, ↓xmul, ↓xdiv, ↓xrem, ↓xand, ↓xor, ↓xxor, ↓xshl, ↓xshr, ↓xneg, ↓xaddl, ↓xsubl, ↓xmull, ↓xdivl, ↓xreml, ↓xnegl, ↓xi2l, ↓xi2c, ↓xofC, ↓xite, ↓xitel, ↓xiter, ↓xmax, ↓xmin, ↓xabs, ↓xabsl,
    ↓xg, ↓xgR, ↓xgO, ↓oR, ↓xald, ↓xzld, ↓xpld, ↓xlen, ↓xstr, ↓xinst, ↓cNot, ↓cAnd, ↓cOr, ↓cEq, ↓cLt, ↓cGt, ↓cEq0, ↓cLt0, ↓cGt0, ↓cEqL, ↓cLtL, ↓cGtL, ↓cEqO,
    ↓kI, ↓kL, ↓kR, ↓kV, ↓kS, ↓kD_e, ↓kP, ↓kT, ↓CALL_t, ↓vI, ↓vL, ↓vR, ↓aN, ↓aC, aenv_i, aenv_l, aenv_r, aenv_0, List.replicate, Nat.reduceSub, Nat.reduceAdd, eset2, kill, List.set_cons_zero, List.set_cons_succ, List.set_nil, List.getElem?_cons_zero, List.getElem?_cons_succ, List.getElem?_nil, List.mem_cons, List.not_mem_nil, or_false, or_true, true_and, and_true, true_or, false_or, false_and, and_false, not_false_eq_true, not_true_eq_false, forall_const, false_imp_iff, imp_false, true_imp_iff, if_true, if_false, implies_true, reduceIte, reduceCtorEq,
    ↓fI_h0, ↓fI_h1, ↓fR_h2, ↓fR_h3, ↓fI_h4, ↓fR_h5, ↓fI_h6, ↓fR_h7, ↓fR_h8, ↓fI_h9, ↓fI_h10, ↓fI_p0, ↓fI_p1, ↓fR_p2, ↓fO_p3, hfs_s0, hfs_s1, hfs_s4, hfs_s6, hfs_s8, hfs_s9, hfs_s10, hfs_len, pfs_len, pfs_s3, Nat.reduceLT, Nat.reduceEqDiff, nI_add, nI_mulN, lit32, nI_clamp, vp_in_nI, nI_ltI, nI_eq, nI_leI, Nat.reduceMul, Nat.zero_add, Nat.add_zero, ↓xNew, ↓xNewI, ↓xNewZ, ↓xNewP, ↓sObj, ↓kVA, ↓kSA, ↓sCtor, ↓sRetR, ↓CALLA_t, rmOf, Nat.reduceLeDiff, Nat.not_lt_zero, ↓onO_us, ↓onO_un2, List.length_cons, List.length_nil, ↓h0, ↓sputZ, ↓onO_BK, ↓onO_RHo, ↓onO_PNo, z_FC]
  refine t_statI (m := B + 1 + 9 + 9 + 2 + 6) (by omega) up_s (by simp (disch := omega) only [up_n, BK_o, PN0_o]; exact PN0_s) (by omega) ⟨rfl, ?_⟩
  simp (disch := omega) only [↓sSeq, ↓sI_f, ↓sL_f, ↓sR_f, ↓sInc_f, fE_c, eset_0, eset_1i, eset_1r, eset_1n, eset_1l, eset_ss, ↓sIf, ↓sBrk, ↓sCnt, ↓sRetI, ↓sRetL, ↓sRetR, ↓sRet, ↓sRetZ, ↓sSkip, ↓sSw, ↓sK, ↓sPop, ↓sFor_t, ↓sast, ↓sastC, ↓szst, ↓spst, ↓sput, ↓sputZ, ↓sputR, ↓sputN, ↓sputC, ↓sCopy,
    ↓xi, ↓xl, ↓xr, ↓xc, ↓xcl, ↓xadd, ↓xsub, ↓xmul, ↓xdiv, ↓xrem, ↓xand, ↓xor, ↓xxor, ↓xshl, ↓xshr, ↓xneg, ↓xaddl, ↓xsubl, ↓xmull, ↓xdivl, ↓xreml, ↓xnegl, ↓xi2l, ↓xi2c, ↓xofC, ↓xite, ↓xitel, ↓xiter, ↓xmax, ↓xmin, ↓xabs, ↓xabsl,
    ↓xg, ↓xgR, ↓xgO, ↓oR, ↓xald, ↓xzld, ↓xpld, ↓xlen, ↓xstr, ↓xinst, ↓cNot, ↓cAnd, ↓cOr, ↓cEq, ↓cLt, ↓cGt, ↓cEq0, ↓cLt0, ↓cGt0, ↓cEqL, ↓cLtL, ↓cGtL, ↓cEqO,
    ↓kI, ↓kL, ↓kR, ↓kV, ↓kS, ↓kD_e, ↓kP, ↓kT, ↓CALL_t, ↓vI, ↓vL, ↓vR, ↓aN, ↓aC, aenv_i, aenv_l, aenv_r, aenv_0, List.replicate, Nat.reduceSub, Nat.reduceAdd, eset2, kill, List.set_cons_zero, List.set_cons_succ, List.set_nil, List.getElem?_cons_zero, List.getElem?_cons_succ, List.getElem?_nil, List.mem_cons, List.not_mem_nil, or_false, or_true, true_and, and_true, true_or, false_or, false_and, and_false, not_false_eq_true, not_true_eq_false, forall_const, false_imp_iff, imp_false, true_imp_iff, if_true, if_false, implies_true, reduceIte, reduceCtorEq,
    ↓fI_h0, ↓fI_h1, ↓fR_h2, ↓fR_h3, ↓fI_h4, ↓fR_h5, ↓fI_h6, ↓fR_h7, ↓fR_h8, ↓fI_h9, ↓fI_h10, ↓fI_p0, ↓fI_p1, ↓fR_p2, ↓fO_p3, hfs_s0, hfs_s1, hfs_s4, hfs_s6, hfs_s8, hfs_s9, hfs_s10, hfs_len, pfs_len, pfs_s3, Nat.reduceLT, Nat.reduceEqDiff, nI_add, nI_mulN, lit32, nI_clamp, vp_in_nI, nI_ltI, nI_eq, nI_leI, Nat.reduceMul, Nat.zero_add, Nat.add_zero, ↓xNew, ↓xNewI, ↓xNewZ, ↓xNewP, ↓sObj, ↓kVA, ↓kSA, ↓sCtor, ↓sRetR, ↓CALLA_t, rmOf, Nat.reduceLeDiff, Nat.not_lt_zero, ↓onO_us, ↓onO_un2, List.length_cons, List.length_nil, ↓h0, ↓sputZ, ↓onO_BK, ↓onO_RHo, ↓onO_PNo, z_FC]
  refine t_statI (m := B + 1 + 9 + 9 + 2 + 6) (by omega) up_s (by simp (disch := omega) only [up_n, BK_o, PN0_o]; exact PN0_s) (by omega) ⟨rfl, ?_⟩
  simp (disch := omega) only [↓sSeq, ↓sI_f, ↓sL_f, ↓sR_f, ↓sInc_f, fE_c, eset_0, eset_1i, eset_1r, eset_1n, eset_1l, eset_ss, ↓sIf, ↓sBrk, ↓sCnt, ↓sRetI, ↓sRetL, ↓sRetR, ↓sRet, ↓sRetZ, ↓sSkip, ↓sSw, ↓sK, ↓sPop, ↓sFor_t, ↓sast, ↓sastC, ↓szst, ↓spst, ↓sput, ↓sputZ, ↓sputR, ↓sputN, ↓sputC, ↓sCopy,
    ↓xi, ↓xl, ↓xr, ↓xc, ↓xcl, ↓xadd, ↓xsub, ↓xmul, ↓xdiv, ↓xrem, ↓xand, ↓xor, ↓xxor, ↓xshl, ↓xshr, ↓xneg, ↓xaddl, ↓xsubl, ↓xmull, ↓xdivl, ↓xreml, ↓xnegl, ↓xi2l, ↓xi2c, ↓xofC, ↓xite, ↓xitel, ↓xiter, ↓xmax, ↓xmin, ↓xabs, ↓xabsl,
    ↓xg, ↓xgR, ↓xgO, ↓oR, ↓xald, ↓xzld, ↓xpld, ↓xlen, ↓xstr, ↓xinst, ↓cNot, ↓cAnd, ↓cOr, ↓cEq, ↓cLt, ↓cGt, ↓cEq0, ↓cLt0, ↓cGt0, ↓cEqL, ↓cLtL, ↓cGtL, ↓cEqO,
    ↓kI, ↓kL, ↓kR, ↓kV, ↓kS, ↓kD_e, ↓kP, ↓kT, ↓CALL_t, ↓vI, ↓vL, ↓vR, ↓aN, ↓aC, aenv_i, aenv_l, aenv_r, aenv_0, List.replicate, Nat.reduceSub, Nat.reduceAdd, eset2, kill, List.set_cons_zero, List.set_cons_succ, List.set_nil, List.getElem?_cons_zero, List.getElem?_cons_succ, List.getElem?_nil, List.mem_cons, List.not_mem_nil, or_false, or_true, true_and, and_true, true_or, false_or, false_and, and_false, not_false_eq_true, not_true_eq_false, forall_const, false_imp_iff, imp_false, true_imp_iff, if_true, if_false, implies_true, reduceIte, reduceCtorEq,
    ↓fI_h0, ↓fI_h1, ↓fR_h2, ↓fR_h3, ↓fI_h4, ↓fR_h5, ↓fI_h6, ↓fR_h7, ↓fR_h8, ↓fI_h9, ↓fI_h10, ↓fI_p0, ↓fI_p1, ↓fR_p2, ↓fO_p3, hfs_s0, hfs_s1, hfs_s4, hfs_s6, hfs_s8, hfs_s9, hfs_s10, hfs_len, pfs_len, pfs_s3, Nat.reduceLT, Nat.reduceEqDiff, nI_add, nI_mulN, lit32, nI_clamp, vp_in_nI, nI_ltI, nI_eq, nI_leI, Nat.reduceMul, Nat.zero_add, Nat.add_zero, ↓xNew, ↓xNewI, ↓xNewZ, ↓xNewP, ↓sObj, ↓kVA, ↓kSA, ↓sCtor, ↓sRetR, ↓CALLA_t, rmOf, Nat.reduceLeDiff, Nat.not_lt_zero, ↓onO_us, ↓onO_un2, List.length_cons, List.length_nil, ↓h0, ↓sputZ, ↓onO_BK, ↓onO_RHo, ↓onO_PNo, z_FC]
  refine hK _ ⟨?_, fun k j hk hj => ?_, ?_, ?_, fun k j hk hj => ?_, fun j hj => ?_, ?_, ?_⟩ (fun p hp => ?_)
  · rw [eN0, eN1, eT, eS0, eS1, eS2, eS3]
    simp only [up_s]
  · rcases (by omega : k = 0 ∨ k = 1) with rfl | rfl
    · rw [eN0]
      simp (disch := omega) only [up_n, BK_o, RH_o, PN0_o]
      exact BK_at hj
    · rw [eN1]
      simp (disch := omega) only [up_n, BK_o, RH_o, PN0_o]
      exact BK_at hj
  · rw [eT]
    simp (disch := omega) only [up_n, up_s, BK_o, RH_o, PN0_o]
  · rw [eT]
    simp (disch := omega) only [up_n, up_s, BK_o, RH_o, PN0_o]
    rfl
  · rw [show B + 27 = B + 1 + 9 + 9 + 2 + 6 from rfl, show B + 21 = B + 1 + 9 + 9 + 2 from rfl]
    rcases (by omega : k = 0 ∨ k = 1 ∨ k = 2 ∨ k = 3) with rfl | rfl | rfl | rfl
    · rw [eS0]
      simp (disch := omega) only [up_n, BK_o, RH_o, PN0_o]
      exact BK_at hj
    · rw [eS1]
      simp (disch := omega) only [up_n, BK_o, RH_o, PN0_o]
      exact BK_at hj
    · rw [eS2]
      simp (disch := omega) only [up_n, BK_o, RH_o, PN0_o]
      exact BK_at hj
    · rw [eS3]
      simp (disch := omega) only [up_n, BK_o, RH_o, PN0_o]
      exact BK_at hj
  · rw [show B + 26 = B + 1 + 9 + 9 + 2 + 5 from rfl, show B + 21 = B + 1 + 9 + 9 + 2 from rfl]
    simp (disch := omega) only [up_n, BK_o, PN0_o]
    exact RH_at j hj
  · rw [show B + 27 = B + 1 + 9 + 9 + 2 + 6 from rfl]
    simp (disch := omega) only [up_n, BK_o]
    exact PN0_s
  · rw [show B + 28 = B + 1 + 9 + 9 + 2 + 6 + 1 from rfl]
    simp (disch := omega) only [up_n, BK_o]
    exact PN0_t
  · simp (disch := omega) only [up_n, BK_o, RH_o, PN0_o]
theorem okL_nil : okL [] := ⟨rfl, Nat.zero_le _, Nat.zero_le _⟩
/-- the tables of a new class -/
def P0 (X : WX) : Nat → Option PD := vP (fun _ => none) (bA X + 27) (0, (0, nI 0))
def Q0 (X : WX) : Nat → Option HDs := vP (fun _ => none) (bA X + 21) (nI 3, (nI 1, []))
theorem FC0_DI {H : HM} (h : FC0 X H) : DI X (P0 X) (Q0 X) H := by
  obtain ⟨f0, f1, f2, f3, f4, f5, f6, f7⟩ := h
  refine ⟨fun a q ha => ?_, fun b H' hb => ?_⟩
  · unfold P0 at ha
    by_cases z : a = bA X + 27
    · subst z
      rw [vP_s] at ha
      cases ha
      exact ⟨Or.inl rfl, by dsimp only; omega, by dsimp only; omega, fun _ => 0, none, f6, f7, fun b hb => by cases hb⟩
    · rw [vP_n z] at ha; cases ha
  · unfold Q0 at hb
    by_cases z : b = bA X + 21
    · subst z
      rw [vP_s] at hb
      cases hb
      exact ⟨Or.inl rfl, okL_nil, bA X + 26, nI 0, nI 0, nI 0, fun _ => 0, f5 0 (by omega), f5 1 (by omega), f5 2 (by omega), f5 3 (by omega), f5 4 (by omega)⟩
    · rw [vP_n z] at hb; cases hb
theorem FC0_CH {H : HM} (h : FC0 X H) : CH X H (fun _ => (S0, (six 6 (bA X + 27), bA X + 21))) (fun _ => S0) (0, fun _ => 0) (nI 0) = H := by
  obtain ⟨f0, f1, f2, f3, f4, f5, f6, f7⟩ := h
  exact CH_self f0 f1 f2 f3 f4
theorem S0_SK : SK (P0 X) (Q0 X) (S0, (six 6 (bA X + 27), bA X + 21)) := by
  refine ⟨fun p hp => ⟨bA X + 27, (0, (0, nI 0)), if_pos hp, vP_s, fun hlt => absurd hlt ?_⟩, ?_⟩
  · show ¬ p < nP S0
    have : nP S0 = 0 := nP_of (by omega) (S0_o (by omega))
    omega
  · have e17 : S0 17 = -1 := upd_s
    show Q0 X (bA X + 21) = some (sTells S0 200 3, (sTells S0 205 1, progS S0))
    have t1 : ∀ u nn, sTells S0 u nn = nn := fun u nn => if_pos e17
    have t2 : progS S0 = [] := if_pos e17
    rw [t1, t1, t2]
    exact vP_s
theorem S0_PN {m b : Nat} : PN (S0, (six 6 m, b)) := fun p hp => if_neg (by omega)
theorem S0_WF {b : Nat} : WF b S0 := ⟨⟨0, by omega, S0_o (by omega)⟩, fun p hp => ⟨0, by omega, S0_o (by omega)⟩, fun p hp => ⟨0, by omega, S0_o (by omega)⟩, ⟨0, by omega, S0_o (by omega)⟩, ⟨0, by omega, S0_o (by omega)⟩, Or.inl upd_s⟩
theorem Nw_0 : Nw X (P0 X) (Q0 X) (bA X + 65) := by
  refine ⟨Nat.le_refl _, fun a q ha => ?_, fun b H hb => ?_⟩
  · unfold P0 at ha
    by_cases z : a = bA X + 27
    · omega
    · rw [vP_n z] at ha; cases ha
  · unfold Q0 at hb
    by_cases z : b = bA X + 21
    · omega
    · rw [vP_n z] at hb; cases hb
end INITFC
