section INITM
variable {X : WX} {d : Nat} {h : HM} {K : Option Value → HM → Nat → Prop}
theorem MH_self {H : HM} {i S I F B T : Nat → Int32} {r : Nat → Nat → Int32} (hc : ∀ j, j ≤ 11 → H (mB X + j) = some (mcell X i S I F B T r j)) : MH X H i S I F B T r = H := by
  funext p
  by_cases q : mB X ≤ p ∧ p ≤ mB X + 11
  · obtain ⟨j, hj, rfl⟩ : ∃ j, j ≤ 11 ∧ p = mB X + j := ⟨p - mB X, by omega, by omega⟩
    rw [MH_at j hj, hc j hj]
  · unfold MH; rw [if_neg q]
theorem fR_any {a : Nat} {P : Nat → Prop} : fR (some (.ref a)) P = P a := rfl
def zf : Nat → Int32 := fun _ => 0
theorem t_ModI (hd : 1 ≤ d) (ha : h (mB X) = some (ob 12 z_Mod)) (hK : ∀ H, MH X H zf S0 zf zf zf zf (fun _ => zf) = H → (∀ p, p < mB X ∨ mB X + 12 ≤ p → H p = h p) → K none H (mB X + 12)) : CALLA X M_Mod_init d 11 2020 [.ref (mB X)] h (mB X + 1) K := by
  obtain ⟨d, rfl⟩ : ∃ e, d = e + 1 := ⟨d - 1, by omega⟩
  refine callA_of (by decide +kernel) (by decide) (F_Mod_init X d) (Nat.le_of_ble_eq_true rfl) ?_
  have h0 := fun P => onO_h (P := P) ha
  simp (disch := omega) only [↓sSeq, ↓sI_f, ↓sL_f, ↓sR_f, ↓sInc_f, fE_c, eset_0, eset_1i, eset_1r, eset_1n, eset_1l, eset_ss, ↓sIf, ↓sBrk, ↓sCnt, ↓sRetI, ↓sRetL, ↓sRetR, ↓sRet, ↓sRetZ, ↓sSkip, ↓sSw, ↓sK, ↓sPop, ↓sFor_t, ↓sast, ↓sastC, ↓szst, ↓spst, ↓sput, ↓sputZ, ↓sputR, ↓sputN, ↓sputC, ↓sCopy,
    ↓xi, ↓xl, ↓xr, ↓xc, ↓xcl, ↓xadd, ↓xsub, ↓xmul, ↓xdiv, ↓xrem, ↓xand, ↓xor, ↓xxor, ↓xshl, ↓xshr, ↓xneg, ↓xaddl, ↓xsubl, ↓xmull, ↓xdivl, ↓xreml, ↓xnegl, ↓xi2l, ↓xi2c, ↓xofC, ↓xite, ↓xitel, ↓xiter, ↓xmax, ↓xmin, ↓xabs, ↓xabsl,
    ↓xg, ↓xgR, ↓xgO, ↓oR, ↓xald, ↓xzld, ↓xpld, ↓xlen, ↓xstr, ↓xinst, ↓cNot, ↓cAnd, ↓cOr, ↓cEq, ↓cLt, ↓cGt, ↓cEq0, ↓cLt0, ↓cGt0, ↓cEqL, ↓cLtL, ↓cGtL, ↓cEqO,
    ↓kI, ↓kL, ↓kR, ↓kV, ↓kS, ↓kD_e, ↓kP, ↓kT, ↓CALL_t, ↓vI, ↓vL, ↓vR, ↓aN, ↓aC, aenv_i, aenv_l, aenv_r, aenv_0, List.replicate, Nat.reduceSub, Nat.reduceAdd, eset2, kill, List.set_cons_zero, List.set_cons_succ, List.set_nil, List.getElem?_cons_zero, List.getElem?_cons_succ, List.getElem?_nil, List.mem_cons, List.not_mem_nil, or_false, or_true, true_and, and_true, true_or, false_or, false_and, and_false, not_false_eq_true, not_true_eq_false, forall_const, false_imp_iff, imp_false, true_imp_iff, if_true, if_false, implies_true, reduceIte, reduceCtorEq,
    ↓fI_h0, ↓fI_h1, ↓fR_h2, ↓fR_h3, ↓fI_h4, ↓fR_h5, ↓fI_h6, ↓fR_h7, ↓fR_h8, ↓fI_h9, ↓fI_h10, ↓fI_p0, ↓fI_p1, ↓fR_p2, ↓fO_p3, hfs_s0, hfs_s1, hfs_s4, hfs_s6, hfs_s8, hfs_s9, hfs_s10, hfs_len, pfs_len, pfs_s3, Nat.reduceLT, Nat.reduceEqDiff, nI_add, nI_mulN, lit32, nI_clamp, vp_in_nI, nI_ltI, nI_eq, nI_leI, Nat.reduceMul, Nat.zero_add, Nat.add_zero, ↓xNew, ↓xNewI, ↓xNewZ, ↓xNewP, ↓sObj, ↓kVA, ↓kSA, ↓sCtor, ↓sRetR, ↓CALLA_t, rmOf, Nat.reduceLeDiff, Nat.not_lt_zero, ↓onO_us, ↓onO_un2, List.length_cons, List.length_nil, B_Mod_init, M_Mod_init, ↓h0, z_Mod, ↓fR_any, ↓onI_us, ↓onI_un2]
  refine hK _ (MH_self (fun j hj => ?_)) (fun p hp => ?_)
  · simp only [Nat.add_assoc, Nat.reduceAdd]
    have e1 : upd (fun _ => nI 0) 17 (-nI 1) = S0 := rfl
    match j, hj with
    | 0, _ => simp (disch := omega) only [up_s, up_n, Nat.add_zero]; rfl
    | 1, _ => simp (disch := omega) only [up_s, up_n]; rfl
    | 2, _ => simp (disch := omega) only [up_s, up_n]; rfl
    | 3, _ => simp (disch := omega) only [up_s, up_n]; rfl
    | 4, _ => simp (disch := omega) only [up_s, up_n]; rfl
    | 5, _ => simp (disch := omega) only [up_s, up_n]; rfl
    | 6, _ => simp (disch := omega) only [up_s, up_n]; rfl
    | 7, _ => simp (disch := omega) only [up_s, up_n]; rfl
    | 8, _ => simp (disch := omega) only [up_s, up_n]; rfl
    | 9, _ => simp (disch := omega) only [up_s, up_n]; rfl
    | 10, _ => simp (disch := omega) only [up_s, up_n]; rfl
    | 11, _ => simp (disch := omega) only [up_s, up_n]; rfl
  · simp (disch := omega) only [up_n]
end INITM
