section INITC
variable {X : WX} {d a : Nat} {h : HM} {K : Option Value → HM → Nat → Prop}
/-- a row of cells over a heap -/
def BK (h : HM) (a n : Nat) (f : Nat → va_E) : HM := fun p => if a ≤ p ∧ p < a + n then some (f (p - a)) else h p
theorem BK_at {n j : Nat} {f : Nat → va_E} (hj : j < n) : BK h a n f (a + j) = some (f j) := by
  unfold BK
  rw [if_pos (by omega), Nat.add_sub_cancel_left]
theorem BK_o {n p : Nat} {f : Nat → va_E} (hp : ¬ (a ≤ p ∧ p < a + n)) : BK h a n f p = h p := if_neg hp
theorem BK_eq {H : HM} {n : Nat} {f : Nat → va_E} (h1 : ∀ j, j < n → H (a + j) = some (f j)) (h2 : ∀ p, ¬ (a ≤ p ∧ p < a + n) → H p = h p) : H = BK h a n f := by
  funext p
  by_cases z : a ≤ p ∧ p < a + n
  · obtain ⟨j, hj, rfl⟩ : ∃ j, j < n ∧ p = a + j := ⟨p - a, by omega, by omega⟩
    rw [BK_at hj, h1 j hj]
  · rw [BK_o z, h2 p z]
def S0 : Nat → Int32 := upd (fun _ => 0) 17 (-1)
theorem sl_0 {o n : Nat} (h : o + n ≤ 17 ∨ 17 < o) : sl S0 o n = fun _ => 0 := by
  funext j
  unfold sl S0
  by_cases q : j < n
  · rw [if_pos q, upd_n (by omega)]
  · rw [if_neg q]
theorem S0_o {j : Nat} (h : j ≠ 17) : S0 j = nI 0 := upd_n h
theorem onP_us {n : Nat} {f : Nat → Option Nat} {P : Nat → (Nat → Option Nat) → Prop} : onP X (up h a (pA X n f) a) P = P n f := onP_h up_s
theorem onP_un2 {b : Nat} {e : va_E} {P : Nat → (Nat → Option Nat) → Prop} (q : ¬ b = a) : onP X (up h a e b) P = onP X (h b) P := by rw [up_n q]
theorem onI_us {n : Nat} {f : Nat → Int32} {P : Nat → (Nat → Int32) → Prop} : onI X (up h a (iA X n f) a) P = P n f := onI_h up_s
theorem onI_un2 {b : Nat} {e : va_E} {P : Nat → (Nat → Int32) → Prop} (q : ¬ b = a) : onI X (up h a e b) P = onI X (h b) P := by rw [up_n q]
theorem t_traceI (hd : 1 ≤ d) (ha : h a = some (ob 2 z_Trace)) (hK : K none (up (up h a (ob 2 [.ref (a + 1), .int (nI 0)])) (a + 1) (iA X 20 (fun _ => 0))) (a + 2)) : CALLA X M_Trace_init d 1 20 [.ref a] h (a + 1) K := by
  obtain ⟨d, rfl⟩ : ∃ e, d = e + 1 := ⟨d - 1, by omega⟩
  refine callA_of (by decide +kernel) (by decide) (F_Trace_init X d) (Nat.le_of_ble_eq_true rfl) ?_
  have h0 := fun P => onO_h (P := P) ha
  simp (disch := omega) only [↓sSeq, ↓sI_f, ↓sL_f, ↓sR_f, ↓sInc_f, fE_c, eset_0, eset_1i, eset_1r, eset_1n, eset_1l, eset_ss, ↓sIf, ↓sBrk, ↓sCnt, ↓sRetI, ↓sRetL, ↓sRetR, ↓sRet, ↓sRetZ, ↓sSkip, ↓sSw, ↓sK, ↓sPop, ↓sFor_t, ↓sast, ↓sastC, ↓szst, ↓spst, ↓sput, ↓sputZ, ↓sputR, ↓sputN, ↓sputC, ↓sCopy,
    ↓xi, ↓xl, ↓xr, ↓xc, ↓xcl, ↓xadd, ↓xsub, ↓xmul, ↓xdiv, ↓xrem, ↓xand, ↓xor, ↓xxor, ↓xshl, ↓xshr, ↓xneg, ↓xaddl, ↓xsubl, ↓xmull, ↓xdivl, ↓xreml, ↓xnegl, ↓xi2l, ↓xi2c, ↓xofC, ↓xite, ↓xitel, ↓xiter, ↓xmax, ↓xmin, ↓xabs, ↓xabsl,
    ↓xg, ↓xgR, ↓xgO, ↓oR, ↓xald, ↓xzld, ↓xpld, ↓xlen, ↓xstr, ↓xinst, ↓cNot, ↓cAnd, ↓cOr, ↓cEq, ↓cLt, ↓cGt, ↓cEq0, ↓cLt0, ↓cGt0, ↓cEqL, ↓cLtL, ↓cGtL, ↓cEqO,
    ↓kI, ↓kL, ↓kR, ↓kV, ↓kS, ↓kD_e, ↓kP, ↓kT, ↓CALL_t, ↓vI, ↓vL, ↓vR, ↓aN, ↓aC, aenv_i, aenv_l, aenv_r, aenv_0, List.replicate, Nat.reduceSub, Nat.reduceAdd, eset2, kill, List.set_cons_zero, List.set_cons_succ, List.set_nil, List.getElem?_cons_zero, List.getElem?_cons_succ, List.getElem?_nil, List.mem_cons, List.not_mem_nil, or_false, or_true, true_and, and_true, true_or, false_or, false_and, and_false, not_false_eq_true, not_true_eq_false, forall_const, false_imp_iff, imp_false, true_imp_iff, if_true, if_false, implies_true, reduceIte, reduceCtorEq,
    ↓fI_h0, ↓fI_h1, ↓fR_h2, ↓fR_h3, ↓fI_h4, ↓fR_h5, ↓fI_h6, ↓fR_h7, ↓fR_h8, ↓fI_h9, ↓fI_h10, ↓fI_p0, ↓fI_p1, ↓fR_p2, ↓fO_p3, hfs_s0, hfs_s1, hfs_s4, hfs_s6, hfs_s8, hfs_s9, hfs_s10, hfs_len, pfs_len, pfs_s3, Nat.reduceLT, Nat.reduceEqDiff, nI_add, nI_mulN, lit32, nI_clamp, vp_in_nI, nI_ltI, nI_eq, nI_leI, Nat.reduceMul, Nat.zero_add, Nat.add_zero, ↓xNew, ↓xNewI, ↓xNewZ, ↓xNewP, ↓sObj, ↓kVA, ↓kSA, ↓sCtor, ↓sRetR, ↓CALLA_t, rmOf, Nat.reduceLeDiff, Nat.not_lt_zero, ↓onO_us, ↓onO_un2, List.length_cons, List.length_nil, B_Trace_init, M_Trace_init, ↓h0, z_Trace]
  refine (show ∀ H, H = up (up h a (ob 2 [.ref (a + 1), .int (nI 0)])) (a + 1) (iA X 20 (fun _ => 0)) → K none H (a + 2) from fun H e => e ▸ hK) _ ?_
  funext p
  by_cases z : p = a
  · subst z
    simp (disch := omega) only [up_s, up_n]
  · by_cases z2 : p = a + 1
    · subst z2
      simp (disch := omega) only [up_s, up_n]; rfl
    · simp (disch := omega) only [up_n]
theorem t_notesI (hd : 1 ≤ d) (ha : h a = some (ob 1 z_Notes)) (hK : K none (BK h a 9 (ncell X a S0)) (a + 9)) : CALLA X M_Notes_init d 8 140 [.ref a] h (a + 1) K := by
  obtain ⟨d, rfl⟩ : ∃ e, d = e + 1 := ⟨d - 1, by omega⟩
  refine callA_of (by decide +kernel) (by decide) (F_Notes_init X d) (Nat.le_of_ble_eq_true rfl) ?_
  have h0 := fun P => onO_h (P := P) ha
  simp (disch := omega) only [↓sSeq, ↓sI_f, ↓sL_f, ↓sR_f, ↓sInc_f, fE_c, eset_0, eset_1i, eset_1r, eset_1n, eset_1l, eset_ss, ↓sIf, ↓sBrk, ↓sCnt, ↓sRetI, ↓sRetL, ↓sRetR, ↓sRet, ↓sRetZ, ↓sSkip, ↓sSw, ↓sK, ↓sPop, ↓sFor_t, ↓sast, ↓sastC, ↓szst, ↓spst, ↓sput, ↓sputZ, ↓sputR, ↓sputN, ↓sputC, ↓sCopy,
    ↓xi, ↓xl, ↓xr, ↓xc, ↓xcl, ↓xadd, ↓xsub, ↓xmul, ↓xdiv, ↓xrem, ↓xand, ↓xor, ↓xxor, ↓xshl, ↓xshr, ↓xneg, ↓xaddl, ↓xsubl, ↓xmull, ↓xdivl, ↓xreml, ↓xnegl, ↓xi2l, ↓xi2c, ↓xofC, ↓xite, ↓xitel, ↓xiter, ↓xmax, ↓xmin, ↓xabs, ↓xabsl,
    ↓xg, ↓xgR, ↓xgO, ↓oR, ↓xald, ↓xzld, ↓xpld, ↓xlen, ↓xstr, ↓xinst, ↓cNot, ↓cAnd, ↓cOr, ↓cEq, ↓cLt, ↓cGt, ↓cEq0, ↓cLt0, ↓cGt0, ↓cEqL, ↓cLtL, ↓cGtL, ↓cEqO,
    ↓kI, ↓kL, ↓kR, ↓kV, ↓kS, ↓kD_e, ↓kP, ↓kT, ↓CALL_t, ↓vI, ↓vL, ↓vR, ↓aN, ↓aC, aenv_i, aenv_l, aenv_r, aenv_0, List.replicate, Nat.reduceSub, Nat.reduceAdd, eset2, kill, List.set_cons_zero, List.set_cons_succ, List.set_nil, List.getElem?_cons_zero, List.getElem?_cons_succ, List.getElem?_nil, List.mem_cons, List.not_mem_nil, or_false, or_true, true_and, and_true, true_or, false_or, false_and, and_false, not_false_eq_true, not_true_eq_false, forall_const, false_imp_iff, imp_false, true_imp_iff, if_true, if_false, implies_true, reduceIte, reduceCtorEq,
    ↓fI_h0, ↓fI_h1, ↓fR_h2, ↓fR_h3, ↓fI_h4, ↓fR_h5, ↓fI_h6, ↓fR_h7, ↓fR_h8, ↓fI_h9, ↓fI_h10, ↓fI_p0, ↓fI_p1, ↓fR_p2, ↓fO_p3, hfs_s0, hfs_s1, hfs_s4, hfs_s6, hfs_s8, hfs_s9, hfs_s10, hfs_len, pfs_len, pfs_s3, Nat.reduceLT, Nat.reduceEqDiff, nI_add, nI_mulN, lit32, nI_clamp, vp_in_nI, nI_ltI, nI_eq, nI_leI, Nat.reduceMul, Nat.zero_add, Nat.add_zero, ↓xNew, ↓xNewI, ↓xNewZ, ↓xNewP, ↓sObj, ↓kVA, ↓kSA, ↓sCtor, ↓sRetR, ↓CALLA_t, rmOf, Nat.reduceLeDiff, Nat.not_lt_zero, ↓onO_us, ↓onO_un2, List.length_cons, List.length_nil, B_Notes_init, M_Notes_init, ↓h0, z_Notes]
  refine (show ∀ H, H = BK h a 9 (ncell X a S0) → K none H (a + 9) from fun H e => e ▸ hK) _ (BK_eq (fun j hj => ?_) (fun p hp => ?_))
  · simp only [Nat.add_assoc, Nat.reduceAdd]
    match j, hj with
    | 0, _ => simp (disch := omega) only [up_s, up_n, Nat.add_zero]; rfl
    | 1, _ => simp (disch := omega) only [up_s, up_n, ncell, sl_0]; rfl
    | 2, _ => simp (disch := omega) only [up_s, up_n, ncell, sl_0]; rfl
    | 3, _ => simp (disch := omega) only [up_s, up_n, ncell, sl_0]; rfl
    | 4, _ => simp (disch := omega) only [up_s, up_n, ncell, sl_0]; rfl
    | 5, _ => simp (disch := omega) only [up_s, up_n, ncell, sl_0]; rfl
    | 6, _ => simp (disch := omega) only [up_s, up_n, ncell, sl_0]; rfl
    | 7, _ => simp (disch := omega) only [up_s, up_n, ncell, sl_0]; rfl
    | 8, _ => simp (disch := omega) only [up_s, up_n, ncell, sl_0]; rfl
  · simp (disch := omega) only [up_n]
/-- six of the same -/
def six (n m : Nat) : Nat → Option Nat := fun p => if p < n then some m else none
theorem six_up {n m : Nat} : va_up (six n m) n (some m) = six (n + 1) m := by
  funext p
  unfold va_up six
  by_cases q : p = n
  · subst q; rw [if_pos rfl, if_pos (by omega)]
  · rw [if_neg q]
    by_cases q2 : p < n
    · rw [if_pos q2, if_pos (by omega)]
    · rw [if_neg q2, if_neg (by omega)]
theorem sF_eq {c : EC} {bo u : ST} {env : Lc} {H H' : HM} {g : Nat × (Nat × Nat)} {Kn : KN} {Kr : KR} {t1 : Tag Kn} {t2 : Tag Kr} (e : H = H') (hK : sForT c bo u env (H', g) Kn Kr t1 t2) : sForT c bo u env (H, g) Kn Kr t1 t2 := e ▸ hK
theorem BK_stat {b : Nat} {f f' : Nat → Option Nat} : up (BK h a 6 (scell X a (S0, (f, b)))) (a + 2) (pA X 6 f') = BK h a 6 (scell X a (S0, (f', b))) := by
  refine BK_eq (fun j hj => ?_) (fun p hp => ?_)
  · by_cases z : j = 2
    · subst z; exact up_s
    · rw [up_n (by omega), BK_at hj]
      match j, hj, z with
      | 0, _, _ => rfl
      | 1, _, _ => rfl
      | 2, _, z => exact absurd rfl z
      | 3, _, _ => rfl
      | 4, _, _ => rfl
      | 5, _, _ => rfl
  · rw [up_n (by omega), BK_o hp]
theorem t_statI {b m : Nat} {fs : List Value} (hd : 1 ≤ d) (ha : h a = some (ob 11 z_Stat)) (hm : h m = some (ob 4 fs)) (hma : m < a) (hK : K none (BK h a 6 (scell X a (S0, (six 6 m, b)))) (a + 6)) : CALLA X M_Stat_init d 5 44 [.ref a, .ref b, .ref m] h (a + 1) K := by
  obtain ⟨d, rfl⟩ : ∃ e, d = e + 1 := ⟨d - 1, by omega⟩
  refine callA_of (by decide +kernel) (by decide) (F_Stat_init X d) (Nat.le_of_ble_eq_true rfl) ?_
  have h0 := fun P => onO_h (P := P) ha
  simp (disch := omega) only [↓sSeq, ↓sI_f, ↓sL_f, ↓sR_f, ↓sInc_f, fE_c, eset_0, eset_1i, eset_1r, eset_1n, eset_1l, eset_ss, ↓sIf, ↓sBrk, ↓sCnt, ↓sRetI, ↓sRetL, ↓sRetR, ↓sRet, ↓sRetZ, ↓sSkip, ↓sSw, ↓sK, ↓sPop, ↓sFor_t, ↓sast, ↓sastC, ↓szst, ↓spst, ↓sput, ↓sputZ, ↓sputR, ↓sputN, ↓sputC, ↓sCopy,
    ↓xi, ↓xl, ↓xr, ↓xc, ↓xcl, ↓xadd, ↓xsub, ↓xmul, ↓xdiv, ↓xrem, ↓xand, ↓xor, ↓xxor, ↓xshl, ↓xshr, ↓xneg, ↓xaddl, ↓xsubl, ↓xmull, ↓xdivl, ↓xreml, ↓xnegl, ↓xi2l, ↓xi2c, ↓xofC, ↓xite, ↓xitel, ↓xiter, ↓xmax, ↓xmin, ↓xabs, ↓xabsl,
    ↓xg, ↓xgR, ↓xgO, ↓oR, ↓xald, ↓xzld, ↓xpld, ↓xlen, ↓xstr, ↓xinst, ↓cNot, ↓cAnd, ↓cOr, ↓cEq, ↓cLt, ↓cGt, ↓cEq0, ↓cLt0, ↓cGt0, ↓cEqL, ↓cLtL, ↓cGtL, ↓cEqO,
    ↓kI, ↓kL, ↓kR, ↓kV, ↓kS, ↓kD_e, ↓kP, ↓kT, ↓CALL_t, ↓vI, ↓vL, ↓vR, ↓aN, ↓aC, aenv_i, aenv_l, aenv_r, aenv_0, List.replicate, Nat.reduceSub, Nat.reduceAdd, eset2, kill, List.set_cons_zero, List.set_cons_succ, List.set_nil, List.getElem?_cons_zero, List.getElem?_cons_succ, List.getElem?_nil, List.mem_cons, List.not_mem_nil, or_false, or_true, true_and, and_true, true_or, false_or, false_and, and_false, not_false_eq_true, not_true_eq_false, forall_const, false_imp_iff, imp_false, true_imp_iff, if_true, if_false, implies_true, reduceIte, reduceCtorEq,
    ↓fI_h0, ↓fI_h1, ↓fR_h2, ↓fR_h3, ↓fI_h4, ↓fR_h5, ↓fI_h6, ↓fR_h7, ↓fR_h8, ↓fI_h9, ↓fI_h10, ↓fI_p0, ↓fI_p1, ↓fR_p2, ↓fO_p3, hfs_s0, hfs_s1, hfs_s4, hfs_s6, hfs_s8, hfs_s9, hfs_s10, hfs_len, pfs_len, pfs_s3, Nat.reduceLT, Nat.reduceEqDiff, nI_add, nI_mulN, lit32, nI_clamp, vp_in_nI, nI_ltI, nI_eq, nI_leI, Nat.reduceMul, Nat.zero_add, Nat.add_zero, ↓xNew, ↓xNewI, ↓xNewZ, ↓xNewP, ↓sObj, ↓kVA, ↓kSA, ↓sCtor, ↓sRetR, ↓CALLA_t, rmOf, Nat.reduceLeDiff, Nat.not_lt_zero, ↓onO_us, ↓onO_un2, List.length_cons, List.length_nil, B_Stat_init, M_Stat_init, ↓h0, z_Stat]
  refine sF_eq (H' := BK h a 6 (scell X a (S0, (six 0 m, b)))) (BK_eq (fun j hj => ?_) (fun p hp => ?_)) ?_
  · simp only [Nat.add_assoc, Nat.reduceAdd]
    match j, hj with
    | 0, _ => simp (disch := omega) only [up_s, up_n, Nat.add_zero]; rfl
    | 1, _ => simp (disch := omega) only [up_s, up_n, scell, sl_0]; rfl
    | 2, _ => simp (disch := omega) only [up_s, up_n, scell, sl_0]; rfl
    | 3, _ => simp (disch := omega) only [up_s, up_n, scell, sl_0]; rfl
    | 4, _ => simp (disch := omega) only [up_s, up_n, scell, sl_0]; rfl
    | 5, _ => simp (disch := omega) only [up_s, up_n, scell, sl_0]; rfl
  · simp (disch := omega) only [up_n]
  have b0 : ∀ (f : Nat → Option Nat) P, onO (BK h a 6 (scell X a (S0, (f, b))) a) P = P 11 (sfs a (S0, (f, b))) := fun f P => onO_h (BK_at (j := 0) (by omega))
  have b2 : ∀ (f : Nat → Option Nat) P, onP X (BK h a 6 (scell X a (S0, (f, b))) (a + 2)) P = P 6 f := fun f P => onP_h (BK_at (j := 2) (by omega))
  have bm : ∀ (f : Nat → Option Nat) P, onO (BK h a 6 (scell X a (S0, (f, b))) m) P = P 4 fs := fun f P => onO_h (by rw [BK_o (by omega)]; exact hm)
  refine for_rule (fun n env σ => ∃ (p : Nat), p + n = 6 ∧ env = [some (.ref a), some (.ref b), some (.ref m), some (.int (nI p))] ∧ σ = (BK h a 6 (scell X a (S0, (six p m, b))), (a + 1 + 1 + 1 + 1 + 1 + 1, (5, 44)))) 6 ⟨0, by omega, rfl, rfl⟩ ?_
  rintro n env σ P' ⟨p, hp, rfl, rfl⟩ hP
  simp (disch := first | omega | rfl | (simp (disch := omega) only [vuS, vuN])) only [↓sSeq, ↓sI_f, ↓sL_f, ↓sR_f, ↓sInc_f, fE_c, eset_0, eset_1i, eset_1r, eset_1n, eset_1l, eset_ss, ↓sIf, ↓sBrk, ↓sCnt, ↓sRetI, ↓sRetL, ↓sRetR, ↓sRet, ↓sRetZ, ↓sSkip, ↓sSw, ↓sK, ↓sPop, ↓sFor_t, ↓sast, ↓sastC, ↓szst, ↓spst, ↓sput, ↓sputZ, ↓sputR, ↓sputN, ↓sputC, ↓sCopy,
    ↓xi, ↓xl, ↓xr, ↓xc, ↓xcl, ↓xadd, ↓xsub, ↓xmul, ↓xdiv, ↓xrem, ↓xand, ↓xor, ↓xxor, ↓xshl, ↓xshr, ↓xneg, ↓xaddl, ↓xsubl, ↓xmull, ↓xdivl, ↓xreml, ↓xnegl, ↓xi2l, ↓xi2c, ↓xofC, ↓xite, ↓xitel, ↓xiter, ↓xmax, ↓xmin, ↓xabs, ↓xabsl,
    ↓xg, ↓xgR, ↓xgO, ↓oR, ↓xald, ↓xzld, ↓xpld, ↓xlen, ↓xstr, ↓xinst, ↓cNot, ↓cAnd, ↓cOr, ↓cEq, ↓cLt, ↓cGt, ↓cEq0, ↓cLt0, ↓cGt0, ↓cEqL, ↓cLtL, ↓cGtL, ↓cEqO,
    ↓kI, ↓kL, ↓kR, ↓kV, ↓kS, ↓kD_e, ↓kP, ↓kT, ↓CALL_t, ↓vI, ↓vL, ↓vR, ↓aN, ↓aC, aenv_i, aenv_l, aenv_r, aenv_0, List.replicate, Nat.reduceSub, Nat.reduceAdd, eset2, kill, List.set_cons_zero, List.set_cons_succ, List.set_nil, List.getElem?_cons_zero, List.getElem?_cons_succ, List.getElem?_nil, List.mem_cons, List.not_mem_nil, or_false, or_true, true_and, and_true, true_or, false_or, false_and, and_false, not_false_eq_true, not_true_eq_false, forall_const, false_imp_iff, imp_false, true_imp_iff, if_true, if_false, implies_true, reduceIte, reduceCtorEq,
    ↓onO_CF, ↓onO_CT, ↓onI_CT1, ↓onO_CN, ↓onI_CN1, ↓onI_CN2, ↓onI_CN3, ↓onI_CN4, ↓onI_CN5, ↓onI_CN6, ↓onI_CN7, ↓onI_CN8, ↓onO_CS, ↓onI_CS1, ↓onP_CS2, ↓onI_CS3, ↓onI_CS4, ↓onI_CS5, ↓fR_f0, ↓fR_f1, ↓fR_f2, ↓fR_f3, ↓fR_f4, ↓fR_f5, ↓fI_f6, ↓fR_f7, ↓fR_t0, ↓fI_t1, ↓fR_s0, ↓fR_s1, ↓fR_s2, ↓fR_s3, ↓fR_s4, ↓fR_s5, ↓fO_s5, ↓fI_s6, ↓fI_s7, ↓fI_s8, ↓fI_s9, ↓fR_n0, ↓fI_n1, ↓fI_n2, ↓fR_n3, ↓fR_n4, ↓fI_n5, ↓fR_n6, ↓fR_n7, ↓fR_n8, ↓fI_n9, ↓fR_n10, ↓fR_n11, ↓fI_n12,
    CHu_F, CHu_T, CHu_T1, CHu_S5, CHu_S6, CHu_S7, CHu_S8, CHu_S9, CHu_a1, CHu_a2, CHu_a3, CHu_a4, CHu_a5, CHu_N1, CHu_N2, CHu_N5, CHu_N9, CHu_N12, CHu_b1, CHu_b2, CHu_b3, CHu_b4, CHu_b5, CHu_b6, CHu_b7, CHu_b8, ffs_len, tfs_len, sfs_len, nfs_len, sl_i, vuS, vuN, vuV, fS_s, Nat.reduceLT, Nat.reduceEqDiff, Nat.le_refl,
    ↓fI_h0, ↓fI_h1, ↓fR_h2, ↓fR_h3, ↓fI_h4, ↓fR_h5, ↓fI_h6, ↓fR_h7, ↓fR_h8, ↓fI_h9, ↓fI_h10, ↓fI_p0, ↓fI_p1, ↓fR_p2, ↓fO_p3, hfs_s0, hfs_s1, hfs_s4, hfs_s6, hfs_s8, hfs_s9, hfs_s10, hfs_len, pfs_len, pfs_s3, Nat.reduceLT, Nat.reduceEqDiff, nI_add, nI_mulN, lit32, nI_clamp, vp_in_nI, nI_ltI, nI_eq, nI_leI, Nat.reduceMul, Nat.zero_add, Nat.add_zero, ↓xNew, ↓xNewI, ↓xNewZ, ↓xNewP, ↓sObj, ↓kVA, ↓kSA, ↓sCtor, ↓sRetR, ↓CALLA_t, rmOf, Nat.reduceLeDiff, Nat.not_lt_zero, ↓onO_us, ↓onO_un2, List.length_cons, List.length_nil]
  refine ⟨fun q => ?_, fun q => ?_⟩
  · simp (disch := first | omega | rfl | (simp (disch := omega) only [vuS, vuN])) only [↓sSeq, ↓sI_f, ↓sL_f, ↓sR_f, ↓sInc_f, fE_c, eset_0, eset_1i, eset_1r, eset_1n, eset_1l, eset_ss, ↓sIf, ↓sBrk, ↓sCnt, ↓sRetI, ↓sRetL, ↓sRetR, ↓sRet, ↓sRetZ, ↓sSkip, ↓sSw, ↓sK, ↓sPop, ↓sFor_t, ↓sast, ↓sastC, ↓szst, ↓spst, ↓sput, ↓sputZ, ↓sputR, ↓sputN, ↓sputC, ↓sCopy,
    ↓xi, ↓xl, ↓xr, ↓xc, ↓xcl, ↓xadd, ↓xsub, ↓xmul, ↓xdiv, ↓xrem, ↓xand, ↓xor, ↓xxor, ↓xshl, ↓xshr, ↓xneg, ↓xaddl, ↓xsubl, ↓xmull, ↓xdivl, ↓xreml, ↓xnegl, ↓xi2l, ↓xi2c, ↓xofC, ↓xite, ↓xitel, ↓xiter, ↓xmax, ↓xmin, ↓xabs, ↓xabsl,
    ↓xg, ↓xgR, ↓xgO, ↓oR, ↓xald, ↓xzld, ↓xpld, ↓xlen, ↓xstr, ↓xinst, ↓cNot, ↓cAnd, ↓cOr, ↓cEq, ↓cLt, ↓cGt, ↓cEq0, ↓cLt0, ↓cGt0, ↓cEqL, ↓cLtL, ↓cGtL, ↓cEqO,
    ↓kI, ↓kL, ↓kR, ↓kV, ↓kS, ↓kD_e, ↓kP, ↓kT, ↓CALL_t, ↓vI, ↓vL, ↓vR, ↓aN, ↓aC, aenv_i, aenv_l, aenv_r, aenv_0, List.replicate, Nat.reduceSub, Nat.reduceAdd, eset2, kill, List.set_cons_zero, List.set_cons_succ, List.set_nil, List.getElem?_cons_zero, List.getElem?_cons_succ, List.getElem?_nil, List.mem_cons, List.not_mem_nil, or_false, or_true, true_and, and_true, true_or, false_or, false_and, and_false, not_false_eq_true, not_true_eq_false, forall_const, false_imp_iff, imp_false, true_imp_iff, if_true, if_false, implies_true, reduceIte, reduceCtorEq,
    ↓onO_CF, ↓onO_CT, ↓onI_CT1, ↓onO_CN, ↓onI_CN1, ↓onI_CN2, ↓onI_CN3, ↓onI_CN4, ↓onI_CN5, ↓onI_CN6, ↓onI_CN7, ↓onI_CN8, ↓onO_CS, ↓onI_CS1, ↓onP_CS2, ↓onI_CS3, ↓onI_CS4, ↓onI_CS5, ↓fR_f0, ↓fR_f1, ↓fR_f2, ↓fR_f3, ↓fR_f4, ↓fR_f5, ↓fI_f6, ↓fR_f7, ↓fR_t0, ↓fI_t1, ↓fR_s0, ↓fR_s1, ↓fR_s2, ↓fR_s3, ↓fR_s4, ↓fR_s5, ↓fO_s5, ↓fI_s6, ↓fI_s7, ↓fI_s8, ↓fI_s9, ↓fR_n0, ↓fI_n1, ↓fI_n2, ↓fR_n3, ↓fR_n4, ↓fI_n5, ↓fR_n6, ↓fR_n7, ↓fR_n8, ↓fI_n9, ↓fR_n10, ↓fR_n11, ↓fI_n12,
    CHu_F, CHu_T, CHu_T1, CHu_S5, CHu_S6, CHu_S7, CHu_S8, CHu_S9, CHu_a1, CHu_a2, CHu_a3, CHu_a4, CHu_a5, CHu_N1, CHu_N2, CHu_N5, CHu_N9, CHu_N12, CHu_b1, CHu_b2, CHu_b3, CHu_b4, CHu_b5, CHu_b6, CHu_b7, CHu_b8, ffs_len, tfs_len, sfs_len, nfs_len, sl_i, vuS, vuN, vuV, fS_s, Nat.reduceLT, Nat.reduceEqDiff, Nat.le_refl,
    ↓fI_h0, ↓fI_h1, ↓fR_h2, ↓fR_h3, ↓fI_h4, ↓fR_h5, ↓fI_h6, ↓fR_h7, ↓fR_h8, ↓fI_h9, ↓fI_h10, ↓fI_p0, ↓fI_p1, ↓fR_p2, ↓fO_p3, hfs_s0, hfs_s1, hfs_s4, hfs_s6, hfs_s8, hfs_s9, hfs_s10, hfs_len, pfs_len, pfs_s3, Nat.reduceLT, Nat.reduceEqDiff, nI_add, nI_mulN, lit32, nI_clamp, vp_in_nI, nI_ltI, nI_eq, nI_leI, Nat.reduceMul, Nat.zero_add, Nat.add_zero, ↓xNew, ↓xNewI, ↓xNewZ, ↓xNewP, ↓sObj, ↓kVA, ↓kSA, ↓sCtor, ↓sRetR, ↓CALLA_t, rmOf, Nat.reduceLeDiff, Nat.not_lt_zero, ↓onO_us, ↓onO_un2, List.length_cons, List.length_nil, L_Stat_init_1, ↓b0, ↓b2, ↓bm, six_up, BK_stat]
    exact hP (n - 1) _ _ (by omega) ⟨p + 1, by omega, rfl, rfl⟩
  · have : p = 6 := by omega
    subst this
    exact hK
end INITC
