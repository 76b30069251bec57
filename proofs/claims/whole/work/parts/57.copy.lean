section CPY
variable {X : WX} {d : Nat} {K : Option Value → HM → Prop} {P : Nat → Option PD} {Q : Nat → Option HDs} {dh : HM} {st : Nat → SR} {nt : Nat → Nat → Int32} {t : Nat × (Nat → Int32)} {im : Int32}
def mix (o n : Nat) (S S' : Nat → Int32) : Nat → Int32 := fun j => if o ≤ j ∧ j < o + n then S j else S' j
theorem mix_i {o n j : Nat} {S S' : Nat → Int32} (h : o ≤ j ∧ j < o + n) : mix o n S S' j = S j := if_pos h
theorem mix_o {o n j : Nat} {S S' : Nat → Int32} (h : ¬ (o ≤ j ∧ j < o + n)) : mix o n S S' j = S' j := if_neg h
theorem sl_mix {o n : Nat} {S S' : Nat → Int32} : sl (mix o n S S') o n = sl S o n := sl_e (fun j h1 h2 => mix_i ⟨h1, h2⟩)
theorem sl_mixo {o n o' n' : Nat} {S S' : Nat → Int32} (h : o + n ≤ o' ∨ o' + n' ≤ o) : sl (mix o n S S') o' n' = sl S' o' n' := sl_e (fun j h1 h2 => mix_o (by omega))
theorem CHu_w1 {k : Nat} {S z : Nat → Int32} (hk : k < 4) (hz : z = (st k).1) : up (CH X dh st nt t im) (SB X k + 1) (iA X 2 (sl S 0 2)) = CH X dh (va_up st k (mix 0 2 S z, (st k).2)) nt t im := by
  subst hz
  refine CH_upS (j := 1) hk (by omega) (by show _ = iA X 2 _; rw [sl_mix]) (fun i h1 hn => ?_)
  match i, h1, hn with
  | 0, _, _ => show ob 11 _ = ob 11 _; unfold sfs; dsimp only; rw [mix_o (by omega), mix_o (by omega), mix_o (by omega), mix_o (by omega)]
  | 1, _, q => exact absurd rfl q
  | 2, _, _ => rfl
  | 3, _, _ => show iA X 6 _ = iA X 6 _; rw [sl_mixo (by omega)]
  | 4, _, _ => show iA X 6 _ = iA X 6 _; rw [sl_mixo (by omega)]
  | 5, _, _ => show iA X 24 _ = iA X 24 _; rw [sl_mixo (by omega)]
theorem CHu_w3 {k : Nat} {S z : Nat → Int32} (hk : k < 4) (hz : z = (st k).1) : up (CH X dh st nt t im) (SB X k + 3) (iA X 6 (sl S 30 6)) = CH X dh (va_up st k (mix 30 6 S z, (st k).2)) nt t im := by
  subst hz
  refine CH_upS (j := 3) hk (by omega) (by show _ = iA X 6 _; rw [sl_mix]) (fun i h1 hn => ?_)
  match i, h1, hn with
  | 0, _, _ => show ob 11 _ = ob 11 _; unfold sfs; dsimp only; rw [mix_o (by omega), mix_o (by omega), mix_o (by omega), mix_o (by omega)]
  | 1, _, _ => show iA X 2 _ = iA X 2 _; rw [sl_mixo (by omega)]
  | 2, _, _ => rfl
  | 3, _, q => exact absurd rfl q
  | 4, _, _ => show iA X 6 _ = iA X 6 _; rw [sl_mixo (by omega)]
  | 5, _, _ => show iA X 24 _ = iA X 24 _; rw [sl_mixo (by omega)]
theorem CHu_w4 {k : Nat} {S z : Nat → Int32} (hk : k < 4) (hz : z = (st k).1) : up (CH X dh st nt t im) (SB X k + 4) (iA X 6 (sl S 5 6)) = CH X dh (va_up st k (mix 5 6 S z, (st k).2)) nt t im := by
  subst hz
  refine CH_upS (j := 4) hk (by omega) (by show _ = iA X 6 _; rw [sl_mix]) (fun i h1 hn => ?_)
  match i, h1, hn with
  | 0, _, _ => show ob 11 _ = ob 11 _; unfold sfs; dsimp only; rw [mix_o (by omega), mix_o (by omega), mix_o (by omega), mix_o (by omega)]
  | 1, _, _ => show iA X 2 _ = iA X 2 _; rw [sl_mixo (by omega)]
  | 2, _, _ => rfl
  | 3, _, _ => show iA X 6 _ = iA X 6 _; rw [sl_mixo (by omega)]
  | 4, _, q => exact absurd rfl q
  | 5, _, _ => show iA X 24 _ = iA X 24 _; rw [sl_mixo (by omega)]
theorem CHu_w5 {k : Nat} {S z : Nat → Int32} (hk : k < 4) (hz : z = (st k).1) : up (CH X dh st nt t im) (SB X k + 5) (iA X 24 (sl S 36 24)) = CH X dh (va_up st k (mix 36 24 S z, (st k).2)) nt t im := by
  subst hz
  refine CH_upS (j := 5) hk (by omega) (by show _ = iA X 24 _; rw [sl_mix]) (fun i h1 hn => ?_)
  match i, h1, hn with
  | 0, _, _ => show ob 11 _ = ob 11 _; unfold sfs; dsimp only; rw [mix_o (by omega), mix_o (by omega), mix_o (by omega), mix_o (by omega)]
  | 1, _, _ => show iA X 2 _ = iA X 2 _; rw [sl_mixo (by omega)]
  | 2, _, _ => rfl
  | 3, _, _ => show iA X 6 _ = iA X 6 _; rw [sl_mixo (by omega)]
  | 4, _, _ => show iA X 6 _ = iA X 6 _; rw [sl_mixo (by omega)]
  | 5, _, q => exact absurd rfl q
/-- a state's cells hang on no more than this of its numbers -/
theorem CH_st {k : Nat} {S S' : Nat → Int32} {w : (Nat → Option Nat) × Nat} (hk : k < 4) (h : ∀ j, j < 12 → S j = S' j) (h2 : ∀ j, 30 ≤ j → j < 60 → S j = S' j) : CH X dh (va_up st k (S, w)) nt t im = CH X dh (va_up st k (S', w)) nt t im := by
  refine CH_ext (fun _ _ => rfl) (fun j hj => ?_)
  unfold ccell
  by_cases q0 : j = 0
  · rw [if_pos q0, if_pos q0]
  · rw [if_neg q0, if_neg q0]
    by_cases q1 : j < 19
    · rw [if_pos q1, if_pos q1]
    · rw [if_neg q1, if_neg q1]
      by_cases q2 : j = 19
      · rw [if_pos q2, if_pos q2]
      · rw [if_neg q2, if_neg q2]
        by_cases q3 : j = 20
        · rw [if_pos q3, if_pos q3]
        · rw [if_neg q3, if_neg q3]
          by_cases q4 : (j - 29) / 6 = k
          · rw [q4, vuS, vuS]
            have h6 : (j - 29) % 6 < 6 := Nat.mod_lt _ (by omega)
            generalize (j - 29) % 6 = i at h6
            match i, h6 with
            | 0, _ => show ob 11 _ = ob 11 _; unfold sfs; dsimp only; rw [h 11 (by omega), h 2 (by omega), h 3 (by omega), h 4 (by omega)]
            | 1, _ => show iA X 2 _ = iA X 2 _; rw [sl_e (fun j h1 h3 => h j (by omega))]
            | 2, _ => rfl
            | 3, _ => show iA X 6 _ = iA X 6 _; rw [sl_e (fun j h1 h3 => h2 j (by omega) (by omega))]
            | 4, _ => show iA X 6 _ = iA X 6 _; rw [sl_e (fun j h1 h3 => h j (by omega))]
            | 5, _ => show iA X 24 _ = iA X 24 _; rw [sl_e (fun j h1 h3 => h2 j (by omega) (by omega))]
          · rw [vuN q4, vuN q4]
def cpP (n : Nat) (f g : Nat → Option Nat) : Nat → Option Nat := fun j => if j < n then f j else g j
theorem cpP_up {n : Nat} {f g : Nat → Option Nat} {x : Option Nat} (hx : x = f n) : va_up (cpP n f g) n x = cpP (n + 1) f g := by
  funext j
  unfold va_up cpP
  by_cases q : j = n
  · subst q; rw [if_pos rfl, if_pos (by omega), hx]
  · rw [if_neg q]
    by_cases q2 : j < n
    · rw [if_pos q2, if_pos (by omega)]
    · rw [if_neg q2, if_neg (by omega)]
def PN (z : SR) : Prop := ∀ p, 6 ≤ p → z.2.1 p = none
theorem t_copyC {k j : Nat} (hd : 1 ≤ d) (hDI : DI X P Q dh) (hk : k < 4) (hj : j < 4) (hkj : ¬ k = j) (hS : SK P Q (st j)) (hnk : PN (st k)) (hnj : PN (st j)) (hK : K none (CH X dh (va_up st k (st j)) nt t im)) : CALL X M_Stat_copyFrom d [.ref (SB X k), .ref (SB X j)] (CH X dh st nt t im) K := by
  have hjk : ¬ j = k := fun e => hkj e.symm
  obtain ⟨d, rfl⟩ : ∃ e, d = e + 1 := ⟨d - 1, by omega⟩
  refine call_of (by decide +kernel) (by decide) (F_Stat_copyFrom X d) (Nat.le_of_ble_eq_true rfl) ?_
  intro g
  simp (disch := first | omega | rfl | (simp (disch := omega) only [vuS, vuN])) only [↓sSeq, ↓sI_f, ↓sL_f, ↓sR_f, ↓sInc_f, fE_c, eset_0, eset_1i, eset_1r, eset_1n, eset_1l, eset_ss, ↓sIf, ↓sBrk, ↓sCnt, ↓sRetI, ↓sRetL, ↓sRetR, ↓sRet, ↓sRetZ, ↓sSkip, ↓sSw, ↓sK, ↓sPop, ↓sFor_t, ↓sast, ↓sastC, ↓szst, ↓spst, ↓sput, ↓sputZ, ↓sputR, ↓sputN, ↓sputC, ↓sCopy,
    ↓xi, ↓xl, ↓xr, ↓xc, ↓xcl, ↓xadd, ↓xsub, ↓xmul, ↓xdiv, ↓xrem, ↓xand, ↓xor, ↓xxor, ↓xshl, ↓xshr, ↓xneg, ↓xaddl, ↓xsubl, ↓xmull, ↓xdivl, ↓xreml, ↓xnegl, ↓xi2l, ↓xi2c, ↓xofC, ↓xite, ↓xitel, ↓xiter, ↓xmax, ↓xmin, ↓xabs, ↓xabsl,
    ↓xg, ↓xgR, ↓xgO, ↓oR, ↓xald, ↓xzld, ↓xpld, ↓xlen, ↓xstr, ↓xinst, ↓cNot, ↓cAnd, ↓cOr, ↓cEq, ↓cLt, ↓cGt, ↓cEq0, ↓cLt0, ↓cGt0, ↓cEqL, ↓cLtL, ↓cGtL, ↓cEqO,
    ↓kI, ↓kL, ↓kR, ↓kV, ↓kS, ↓kD_e, ↓kP, ↓kT, ↓CALL_t, ↓vI, ↓vL, ↓vR, ↓aN, ↓aC, aenv_i, aenv_l, aenv_r, aenv_0, List.replicate, Nat.reduceSub, Nat.reduceAdd, eset2, kill, List.set_cons_zero, List.set_cons_succ, List.set_nil, List.getElem?_cons_zero, List.getElem?_cons_succ, List.getElem?_nil, List.mem_cons, List.not_mem_nil, or_false, or_true, true_and, and_true, true_or, false_or, false_and, and_false, not_false_eq_true, not_true_eq_false, forall_const, false_imp_iff, imp_false, true_imp_iff, if_true, if_false, implies_true, reduceIte, reduceCtorEq,
    ↓onO_CF, ↓onO_CT, ↓onI_CT1, ↓onO_CN, ↓onI_CN1, ↓onI_CN2, ↓onI_CN3, ↓onI_CN4, ↓onI_CN5, ↓onI_CN6, ↓onI_CN7, ↓onI_CN8, ↓onO_CS, ↓onI_CS1, ↓onP_CS2, ↓onI_CS3, ↓onI_CS4, ↓onI_CS5, ↓fR_f0, ↓fR_f1, ↓fR_f2, ↓fR_f3, ↓fR_f4, ↓fR_f5, ↓fI_f6, ↓fR_f7, ↓fR_t0, ↓fI_t1, ↓fR_s0, ↓fR_s1, ↓fR_s2, ↓fR_s3, ↓fR_s4, ↓fR_s5, ↓fO_s5, ↓fI_s6, ↓fI_s7, ↓fI_s8, ↓fI_s9, ↓fR_n0, ↓fI_n1, ↓fI_n2, ↓fR_n3, ↓fR_n4, ↓fI_n5, ↓fR_n6, ↓fR_n7, ↓fR_n8, ↓fI_n9, ↓fR_n10, ↓fR_n11, ↓fI_n12,
    CHu_F, CHu_T, CHu_T1, CHu_S5, CHu_S6, CHu_S7, CHu_S8, CHu_S9, CHu_a1, CHu_a2, CHu_a3, CHu_a4, CHu_a5, CHu_N1, CHu_N2, CHu_N5, CHu_N9, CHu_N12, CHu_b1, CHu_b2, CHu_b3, CHu_b4, CHu_b5, CHu_b6, CHu_b7, CHu_b8, ffs_len, tfs_len, sfs_len, nfs_len, sl_i, vuS, vuN, vuV, fS_s, Nat.reduceLT, Nat.reduceEqDiff, Nat.le_refl, nI_add, nI_mulN, lit32, nI_clamp, vp_in_nI, nI_ltI, nI_eq, nI_leI, Nat.reduceMul, Nat.zero_add, Nat.add_zero, B_Stat_copyFrom, M_Stat_copyFrom, sl_cpy, CHu_w1, CHu_w3, CHu_w4, CHu_w5]
  refine for_rule (fun m env σ => ∃ (p : Nat), p + m = 6 ∧ env = [some (.ref (SB X k)), some (.ref (SB X j)), some (.int (nI p))] ∧ σ = (CH X dh (va_up st k (mix 36 24 (st j).1 (mix 5 6 (st j).1 (mix 30 6 (st j).1 (mix 0 2 (st j).1 (st k).1))), (cpP p (st j).2.1 (st k).2.1, (st k).2.2))) nt t im, g)) 6 ⟨0, by omega, rfl, by rw [show cpP 0 (st j).2.1 (st k).2.1 = (st k).2.1 from funext (fun i => if_neg (by omega))]⟩ ?_
  rintro m env σ P' ⟨p, hp, rfl, rfl⟩ hP
  simp (disch := first | omega | rfl | (simp (disch := omega) only [vuS, vuN])) only [↓sSeq, ↓sI_f, ↓sL_f, ↓sR_f, ↓sInc_f, fE_c, eset_0, eset_1i, eset_1r, eset_1n, eset_1l, eset_ss, ↓sIf, ↓sBrk, ↓sCnt, ↓sRetI, ↓sRetL, ↓sRetR, ↓sRet, ↓sRetZ, ↓sSkip, ↓sSw, ↓sK, ↓sPop, ↓sFor_t, ↓sast, ↓sastC, ↓szst, ↓spst, ↓sput, ↓sputZ, ↓sputR, ↓sputN, ↓sputC, ↓sCopy,
    ↓xi, ↓xl, ↓xr, ↓xc, ↓xcl, ↓xadd, ↓xsub, ↓xmul, ↓xdiv, ↓xrem, ↓xand, ↓xor, ↓xxor, ↓xshl, ↓xshr, ↓xneg, ↓xaddl, ↓xsubl, ↓xmull, ↓xdivl, ↓xreml, ↓xnegl, ↓xi2l, ↓xi2c, ↓xofC, ↓xite, ↓xitel, ↓xiter, ↓xmax, ↓xmin, ↓xabs, ↓xabsl,
    ↓xg, ↓xgR, ↓xgO, ↓oR, ↓xald, ↓xzld, ↓xpld, ↓xlen, ↓xstr, ↓xinst, ↓cNot, ↓cAnd, ↓cOr, ↓cEq, ↓cLt, ↓cGt, ↓cEq0, ↓cLt0, ↓cGt0, ↓cEqL, ↓cLtL, ↓cGtL, ↓cEqO,
    ↓kI, ↓kL, ↓kR, ↓kV, ↓kS, ↓kD_e, ↓kP, ↓kT, ↓CALL_t, ↓vI, ↓vL, ↓vR, ↓aN, ↓aC, aenv_i, aenv_l, aenv_r, aenv_0, List.replicate, Nat.reduceSub, Nat.reduceAdd, eset2, kill, List.set_cons_zero, List.set_cons_succ, List.set_nil, List.getElem?_cons_zero, List.getElem?_cons_succ, List.getElem?_nil, List.mem_cons, List.not_mem_nil, or_false, or_true, true_and, and_true, true_or, false_or, false_and, and_false, not_false_eq_true, not_true_eq_false, forall_const, false_imp_iff, imp_false, true_imp_iff, if_true, if_false, implies_true, reduceIte, reduceCtorEq,
    ↓onO_CF, ↓onO_CT, ↓onI_CT1, ↓onO_CN, ↓onI_CN1, ↓onI_CN2, ↓onI_CN3, ↓onI_CN4, ↓onI_CN5, ↓onI_CN6, ↓onI_CN7, ↓onI_CN8, ↓onO_CS, ↓onI_CS1, ↓onP_CS2, ↓onI_CS3, ↓onI_CS4, ↓onI_CS5, ↓fR_f0, ↓fR_f1, ↓fR_f2, ↓fR_f3, ↓fR_f4, ↓fR_f5, ↓fI_f6, ↓fR_f7, ↓fR_t0, ↓fI_t1, ↓fR_s0, ↓fR_s1, ↓fR_s2, ↓fR_s3, ↓fR_s4, ↓fR_s5, ↓fO_s5, ↓fI_s6, ↓fI_s7, ↓fI_s8, ↓fI_s9, ↓fR_n0, ↓fI_n1, ↓fI_n2, ↓fR_n3, ↓fR_n4, ↓fI_n5, ↓fR_n6, ↓fR_n7, ↓fR_n8, ↓fI_n9, ↓fR_n10, ↓fR_n11, ↓fI_n12,
    CHu_F, CHu_T, CHu_T1, CHu_S5, CHu_S6, CHu_S7, CHu_S8, CHu_S9, CHu_a1, CHu_a2, CHu_a3, CHu_a4, CHu_a5, CHu_N1, CHu_N2, CHu_N5, CHu_N9, CHu_N12, CHu_b1, CHu_b2, CHu_b3, CHu_b4, CHu_b5, CHu_b6, CHu_b7, CHu_b8, ffs_len, tfs_len, sfs_len, nfs_len, sl_i, vuS, vuN, vuV, fS_s, Nat.reduceLT, Nat.reduceEqDiff, Nat.le_refl, nI_add, nI_mulN, lit32, nI_clamp, vp_in_nI, nI_ltI, nI_eq, nI_leI, Nat.reduceMul, Nat.zero_add, Nat.add_zero]
  refine ⟨fun c => ?_, fun c => ?_⟩
  · obtain ⟨a, q, e1, e2, -⟩ := hS.1 p (by omega)
    obtain ⟨p1, p2, p3, cc, o, f0, f1, -⟩ := hDI.1 a _ e2
    have hon : ∀ (st' : Nat → SR) (P : Nat → List Value → Prop), onO (CH X dh st' nt t im a) P = P (4 + q.1) (pfs a q o) := fun st' P => onO_CHd (dynP_0 p1) f0 P
    have hin := cl_in p2
    have hpu : va_up (cpP p (st j).2.1 (st k).2.1) p (some a) = cpP (p + 1) (st j).2.1 (st k).2.1 := cpP_up e1.symm
    simp (disch := first | omega | rfl | (simp (disch := omega) only [vuS, vuN])) only [↓sSeq, ↓sI_f, ↓sL_f, ↓sR_f, ↓sInc_f, fE_c, eset_0, eset_1i, eset_1r, eset_1n, eset_1l, eset_ss, ↓sIf, ↓sBrk, ↓sCnt, ↓sRetI, ↓sRetL, ↓sRetR, ↓sRet, ↓sRetZ, ↓sSkip, ↓sSw, ↓sK, ↓sPop, ↓sFor_t, ↓sast, ↓sastC, ↓szst, ↓spst, ↓sput, ↓sputZ, ↓sputR, ↓sputN, ↓sputC, ↓sCopy,
    ↓xi, ↓xl, ↓xr, ↓xc, ↓xcl, ↓xadd, ↓xsub, ↓xmul, ↓xdiv, ↓xrem, ↓xand, ↓xor, ↓xxor, ↓xshl, ↓xshr, ↓xneg, ↓xaddl, ↓xsubl, ↓xmull, ↓xdivl, ↓xreml, ↓xnegl, ↓xi2l, ↓xi2c, ↓xofC, ↓xite, ↓xitel, ↓xiter, ↓xmax, ↓xmin, ↓xabs, ↓xabsl,
    ↓xg, ↓xgR, ↓xgO, ↓oR, ↓xald, ↓xzld, ↓xpld, ↓xlen, ↓xstr, ↓xinst, ↓cNot, ↓cAnd, ↓cOr, ↓cEq, ↓cLt, ↓cGt, ↓cEq0, ↓cLt0, ↓cGt0, ↓cEqL, ↓cLtL, ↓cGtL, ↓cEqO,
    ↓kI, ↓kL, ↓kR, ↓kV, ↓kS, ↓kD_e, ↓kP, ↓kT, ↓CALL_t, ↓vI, ↓vL, ↓vR, ↓aN, ↓aC, aenv_i, aenv_l, aenv_r, aenv_0, List.replicate, Nat.reduceSub, Nat.reduceAdd, eset2, kill, List.set_cons_zero, List.set_cons_succ, List.set_nil, List.getElem?_cons_zero, List.getElem?_cons_succ, List.getElem?_nil, List.mem_cons, List.not_mem_nil, or_false, or_true, true_and, and_true, true_or, false_or, false_and, and_false, not_false_eq_true, not_true_eq_false, forall_const, false_imp_iff, imp_false, true_imp_iff, if_true, if_false, implies_true, reduceIte, reduceCtorEq,
    ↓onO_CF, ↓onO_CT, ↓onI_CT1, ↓onO_CN, ↓onI_CN1, ↓onI_CN2, ↓onI_CN3, ↓onI_CN4, ↓onI_CN5, ↓onI_CN6, ↓onI_CN7, ↓onI_CN8, ↓onO_CS, ↓onI_CS1, ↓onP_CS2, ↓onI_CS3, ↓onI_CS4, ↓onI_CS5, ↓fR_f0, ↓fR_f1, ↓fR_f2, ↓fR_f3, ↓fR_f4, ↓fR_f5, ↓fI_f6, ↓fR_f7, ↓fR_t0, ↓fI_t1, ↓fR_s0, ↓fR_s1, ↓fR_s2, ↓fR_s3, ↓fR_s4, ↓fR_s5, ↓fO_s5, ↓fI_s6, ↓fI_s7, ↓fI_s8, ↓fI_s9, ↓fR_n0, ↓fI_n1, ↓fI_n2, ↓fR_n3, ↓fR_n4, ↓fI_n5, ↓fR_n6, ↓fR_n7, ↓fR_n8, ↓fI_n9, ↓fR_n10, ↓fR_n11, ↓fI_n12,
    CHu_F, CHu_T, CHu_T1, CHu_S5, CHu_S6, CHu_S7, CHu_S8, CHu_S9, CHu_a1, CHu_a2, CHu_a3, CHu_a4, CHu_a5, CHu_N1, CHu_N2, CHu_N5, CHu_N9, CHu_N12, CHu_b1, CHu_b2, CHu_b3, CHu_b4, CHu_b5, CHu_b6, CHu_b7, CHu_b8, ffs_len, tfs_len, sfs_len, nfs_len, sl_i, vuS, vuN, vuV, fS_s, Nat.reduceLT, Nat.reduceEqDiff, Nat.le_refl, nI_add, nI_mulN, lit32, nI_clamp, vp_in_nI, nI_ltI, nI_eq, nI_leI, Nat.reduceMul, Nat.zero_add, Nat.add_zero, L_Stat_copyFrom_1, e1, ↓hon, hin, hpu]
    exact hP (m - 1) _ _ (by omega) ⟨p + 1, by omega, rfl, rfl⟩
  · have : p = 6 := by omega
    subst this
    have e6 : cpP 6 (st j).2.1 (st k).2.1 = (st j).2.1 := by
      funext i
      unfold cpP
      by_cases q : i < 6
      · rw [if_pos q]
      · rw [if_neg q, hnk i (by omega), hnj i (by omega)]
    simp (disch := first | omega | rfl | (simp (disch := omega) only [vuS, vuN])) only [↓sSeq, ↓sI_f, ↓sL_f, ↓sR_f, ↓sInc_f, fE_c, eset_0, eset_1i, eset_1r, eset_1n, eset_1l, eset_ss, ↓sIf, ↓sBrk, ↓sCnt, ↓sRetI, ↓sRetL, ↓sRetR, ↓sRet, ↓sRetZ, ↓sSkip, ↓sSw, ↓sK, ↓sPop, ↓sFor_t, ↓sast, ↓sastC, ↓szst, ↓spst, ↓sput, ↓sputZ, ↓sputR, ↓sputN, ↓sputC, ↓sCopy,
    ↓xi, ↓xl, ↓xr, ↓xc, ↓xcl, ↓xadd, ↓xsub, ↓xmul, ↓xdiv, ↓xrem, ↓xand, ↓xor, ↓xxor, ↓xshl, ↓xshr, ↓xneg, ↓xaddl, ↓xsubl, ↓xmull, ↓xdivl, ↓xreml, ↓xnegl, ↓xi2l, ↓xi2c, ↓xofC, ↓xite, ↓xitel, ↓xiter, ↓xmax, ↓xmin, ↓xabs, ↓xabsl,
    ↓xg, ↓xgR, ↓xgO, ↓oR, ↓xald, ↓xzld, ↓xpld, ↓xlen, ↓xstr, ↓xinst, ↓cNot, ↓cAnd, ↓cOr, ↓cEq, ↓cLt, ↓cGt, ↓cEq0, ↓cLt0, ↓cGt0, ↓cEqL, ↓cLtL, ↓cGtL, ↓cEqO,
    ↓kI, ↓kL, ↓kR, ↓kV, ↓kS, ↓kD_e, ↓kP, ↓kT, ↓CALL_t, ↓vI, ↓vL, ↓vR, ↓aN, ↓aC, aenv_i, aenv_l, aenv_r, aenv_0, List.replicate, Nat.reduceSub, Nat.reduceAdd, eset2, kill, List.set_cons_zero, List.set_cons_succ, List.set_nil, List.getElem?_cons_zero, List.getElem?_cons_succ, List.getElem?_nil, List.mem_cons, List.not_mem_nil, or_false, or_true, true_and, and_true, true_or, false_or, false_and, and_false, not_false_eq_true, not_true_eq_false, forall_const, false_imp_iff, imp_false, true_imp_iff, if_true, if_false, implies_true, reduceIte, reduceCtorEq,
    ↓onO_CF, ↓onO_CT, ↓onI_CT1, ↓onO_CN, ↓onI_CN1, ↓onI_CN2, ↓onI_CN3, ↓onI_CN4, ↓onI_CN5, ↓onI_CN6, ↓onI_CN7, ↓onI_CN8, ↓onO_CS, ↓onI_CS1, ↓onP_CS2, ↓onI_CS3, ↓onI_CS4, ↓onI_CS5, ↓fR_f0, ↓fR_f1, ↓fR_f2, ↓fR_f3, ↓fR_f4, ↓fR_f5, ↓fI_f6, ↓fR_f7, ↓fR_t0, ↓fI_t1, ↓fR_s0, ↓fR_s1, ↓fR_s2, ↓fR_s3, ↓fR_s4, ↓fR_s5, ↓fO_s5, ↓fI_s6, ↓fI_s7, ↓fI_s8, ↓fI_s9, ↓fR_n0, ↓fI_n1, ↓fI_n2, ↓fR_n3, ↓fR_n4, ↓fI_n5, ↓fR_n6, ↓fR_n7, ↓fR_n8, ↓fI_n9, ↓fR_n10, ↓fR_n11, ↓fI_n12,
    CHu_F, CHu_T, CHu_T1, CHu_S5, CHu_S6, CHu_S7, CHu_S8, CHu_S9, CHu_a1, CHu_a2, CHu_a3, CHu_a4, CHu_a5, CHu_N1, CHu_N2, CHu_N5, CHu_N9, CHu_N12, CHu_b1, CHu_b2, CHu_b3, CHu_b4, CHu_b5, CHu_b6, CHu_b7, CHu_b8, ffs_len, tfs_len, sfs_len, nfs_len, sl_i, vuS, vuN, vuV, fS_s, Nat.reduceLT, Nat.reduceEqDiff, Nat.le_refl, nI_add, nI_mulN, lit32, nI_clamp, vp_in_nI, nI_ltI, nI_eq, nI_leI, Nat.reduceMul, Nat.zero_add, Nat.add_zero, e6]
    refine Eq.mp (congrArg (K none) (CH_st (S := (st j).1) hk (fun i hi => ?_) (fun i h1 h2 => ?_))) hK
    · rcases (by omega : i = 4 ∨ i = 3 ∨ i = 2 ∨ i = 11 ∨ i < 2 ∨ (5 ≤ i ∧ i < 11)) with rfl | rfl | rfl | rfl | q | q
      · rw [upd_s]
      · rw [upd_n (by omega), upd_s]
      · rw [upd_n (by omega), upd_n (by omega), upd_s]
      · rw [upd_n (by omega), upd_n (by omega), upd_n (by omega), upd_s]
      · rw [upd_n (by omega), upd_n (by omega), upd_n (by omega), upd_n (by omega), mix_o (by omega), mix_o (by omega), mix_o (by omega), mix_i (by omega)]
      · rw [upd_n (by omega), upd_n (by omega), upd_n (by omega), upd_n (by omega), mix_o (by omega), mix_i (by omega)]
    · rw [upd_n (by omega), upd_n (by omega), upd_n (by omega), upd_n (by omega)]
      by_cases q : 36 ≤ i
      · rw [mix_i (by omega)]
      · rw [mix_o (by omega), mix_o (by omega), mix_i (by omega)]
/-! notes -/
theorem ncell_mix {s o n j : Nat} {S z : Nat → Int32} (h1 : j ≠ 1 → 200 ≤ o ∨ o + n ≤ 100) (ho : 60 ≤ o) (h2 : j ≠ 2 → o + n ≤ 60 ∨ 66 ≤ o) (h3 : j ≠ 3 → o + n ≤ 66 ∨ 72 ≤ o) (h4 : j ≠ 4 → o + n ≤ 72 ∨ 76 ≤ o) (h5 : j ≠ 5 → o + n ≤ 76 ∨ 80 ≤ o) (h6 : j ≠ 6 → o + n ≤ 80 ∨ 84 ≤ o) (h7 : j ≠ 7 → o + n ≤ 84 ∨ 92 ≤ o) (h8 : j ≠ 8 → o + n ≤ 92 ∨ 100 ≤ o) : ∀ i, i < 9 → i ≠ j → ncell X s z i = ncell X s (mix o n S z) i :=
  ncell_c (fun _ => ⟨mix_o (by omega), mix_o (by omega), mix_o (by omega), mix_o (by omega), mix_o (by omega)⟩) (fun q => sl_mixo (by have := h1 q; omega)) (fun q => sl_mixo (by have := h2 q; omega)) (fun q => sl_mixo (by have := h3 q; omega)) (fun q => sl_mixo (by have := h4 q; omega)) (fun q => sl_mixo (by have := h5 q; omega)) (fun q => sl_mixo (by have := h6 q; omega)) (fun q => sl_mixo (by have := h7 q; omega)) (fun q => sl_mixo (by have := h8 q; omega))
section VW
variable {k : Nat} {S z : Nat → Int32}
theorem CHu_v1 (hk : k < 2) (hz : z = nt k) : up (CH X dh st nt t im) (NB X k + 1) (iA X 100 (sl S 100 100)) = CH X dh st (va_up nt k (mix 100 100 S z)) t im := by
  subst hz
  exact CH_upN (j := 1) hk (by omega) (by show _ = iA X 100 _; rw [sl_mix]) (ncell_mix (by omega) (by omega) (by omega) (by omega) (by omega) (by omega) (by omega) (by omega) (by omega))
theorem CHu_v2 (hk : k < 2) (hz : z = nt k) : up (CH X dh st nt t im) (NB X k + 2) (iA X 6 (sl S 60 6)) = CH X dh st (va_up nt k (mix 60 6 S z)) t im := by
  subst hz
  exact CH_upN (j := 2) hk (by omega) (by show _ = iA X 6 _; rw [sl_mix]) (ncell_mix (by omega) (by omega) (by omega) (by omega) (by omega) (by omega) (by omega) (by omega) (by omega))
theorem CHu_v3 (hk : k < 2) (hz : z = nt k) : up (CH X dh st nt t im) (NB X k + 3) (iA X 6 (sl S 66 6)) = CH X dh st (va_up nt k (mix 66 6 S z)) t im := by
  subst hz
  exact CH_upN (j := 3) hk (by omega) (by show _ = iA X 6 _; rw [sl_mix]) (ncell_mix (by omega) (by omega) (by omega) (by omega) (by omega) (by omega) (by omega) (by omega) (by omega))
theorem CHu_v4 (hk : k < 2) (hz : z = nt k) : up (CH X dh st nt t im) (NB X k + 4) (iA X 4 (sl S 72 4)) = CH X dh st (va_up nt k (mix 72 4 S z)) t im := by
  subst hz
  exact CH_upN (j := 4) hk (by omega) (by show _ = iA X 4 _; rw [sl_mix]) (ncell_mix (by omega) (by omega) (by omega) (by omega) (by omega) (by omega) (by omega) (by omega) (by omega))
theorem CHu_v5 (hk : k < 2) (hz : z = nt k) : up (CH X dh st nt t im) (NB X k + 5) (iA X 4 (sl S 76 4)) = CH X dh st (va_up nt k (mix 76 4 S z)) t im := by
  subst hz
  exact CH_upN (j := 5) hk (by omega) (by show _ = iA X 4 _; rw [sl_mix]) (ncell_mix (by omega) (by omega) (by omega) (by omega) (by omega) (by omega) (by omega) (by omega) (by omega))
theorem CHu_v6 (hk : k < 2) (hz : z = nt k) : up (CH X dh st nt t im) (NB X k + 6) (iA X 4 (sl S 80 4)) = CH X dh st (va_up nt k (mix 80 4 S z)) t im := by
  subst hz
  exact CH_upN (j := 6) hk (by omega) (by show _ = iA X 4 _; rw [sl_mix]) (ncell_mix (by omega) (by omega) (by omega) (by omega) (by omega) (by omega) (by omega) (by omega) (by omega))
theorem CHu_v7 (hk : k < 2) (hz : z = nt k) : up (CH X dh st nt t im) (NB X k + 7) (iA X 8 (sl S 84 8)) = CH X dh st (va_up nt k (mix 84 8 S z)) t im := by
  subst hz
  exact CH_upN (j := 7) hk (by omega) (by show _ = iA X 8 _; rw [sl_mix]) (ncell_mix (by omega) (by omega) (by omega) (by omega) (by omega) (by omega) (by omega) (by omega) (by omega))
theorem CHu_v8 (hk : k < 2) (hz : z = nt k) : up (CH X dh st nt t im) (NB X k + 8) (iA X 8 (sl S 92 8)) = CH X dh st (va_up nt k (mix 92 8 S z)) t im := by
  subst hz
  exact CH_upN (j := 8) hk (by omega) (by show _ = iA X 8 _; rw [sl_mix]) (ncell_mix (by omega) (by omega) (by omega) (by omega) (by omega) (by omega) (by omega) (by omega) (by omega))
end VW
theorem CH_nt {k : Nat} {S S' : Nat → Int32} (hk : k < 2) (h : ∀ j, 12 ≤ j → j < 17 → S j = S' j) (h2 : ∀ j, 60 ≤ j → j < 200 → S j = S' j) : CH X dh st (va_up nt k S) t im = CH X dh st (va_up nt k S') t im := by
  refine CH_ext (fun _ _ => rfl) (fun j hj => ?_)
  unfold ccell
  by_cases q0 : j = 0
  · rw [if_pos q0, if_pos q0]
  · rw [if_neg q0, if_neg q0]
    by_cases q1 : j < 19
    · rw [if_pos q1, if_pos q1]
      by_cases q4 : (j - 1) / 9 = k
      · rw [q4, vuS, vuS]
        have h6 : (j - 1) % 9 < 9 := Nat.mod_lt _ (by omega)
        generalize (j - 1) % 9 = i at h6
        match i, h6 with
        | 0, _ => show ob 1 _ = ob 1 _; unfold nfs; rw [h 16 (by omega) (by omega), h 12 (by omega) (by omega), h 13 (by omega) (by omega), h 14 (by omega) (by omega), h 15 (by omega) (by omega)]
        | 1, _ => show iA X 100 _ = iA X 100 _; rw [sl_e (fun j h1 h3 => h2 j (by omega) (by omega))]
        | 2, _ => show iA X 6 _ = iA X 6 _; rw [sl_e (fun j h1 h3 => h2 j (by omega) (by omega))]
        | 3, _ => show iA X 6 _ = iA X 6 _; rw [sl_e (fun j h1 h3 => h2 j (by omega) (by omega))]
        | 4, _ => show iA X 4 _ = iA X 4 _; rw [sl_e (fun j h1 h3 => h2 j (by omega) (by omega))]
        | 5, _ => show iA X 4 _ = iA X 4 _; rw [sl_e (fun j h1 h3 => h2 j (by omega) (by omega))]
        | 6, _ => show iA X 4 _ = iA X 4 _; rw [sl_e (fun j h1 h3 => h2 j (by omega) (by omega))]
        | 7, _ => show iA X 8 _ = iA X 8 _; rw [sl_e (fun j h1 h3 => h2 j (by omega) (by omega))]
        | 8, _ => show iA X 8 _ = iA X 8 _; rw [sl_e (fun j h1 h3 => h2 j (by omega) (by omega))]
      · rw [vuN q4, vuN q4]
    · rw [if_neg q1, if_neg q1]
def B_nc2 (X : WX) (d : Nat) : ST := (sSeq (sCopy X (xgR [1] 10 (xr 1)) (xc 0) (xgR [1] 10 (xr 0)) (xc 0) (xc 8)) (sSeq (sCopy X (xgR [1] 11 (xr 1)) (xc 0) (xgR [1] 11 (xr 0)) (xc 0) (xc 8)) (sSeq (sput [1] 1 (xr 0) (xg [1] 1 (xr 1))) (sSeq (sput [1] 2 (xr 0) (xg [1] 2 (xr 1))) (sSeq (sput [1] 5 (xr 0) (xg [1] 5 (xr 1))) (sSeq (sput [1] 9 (xr 0) (xg [1] 9 (xr 1))) (sSeq (sput [1] 12 (xr 0) (xg [1] 12 (xr 1))) sRet)))))))
def B_nc1 (X : WX) (d : Nat) : ST := (sSeq (sCopy X (xgR [1] 6 (xr 1)) (xc 0) (xgR [1] 6 (xr 0)) (xc 0) (xc 4)) (sSeq (sCopy X (xgR [1] 7 (xr 1)) (xc 0) (xgR [1] 7 (xr 0)) (xc 0) (xc 4)) (sSeq (sCopy X (xgR [1] 8 (xr 1)) (xc 0) (xgR [1] 8 (xr 0)) (xc 0) (xc 4)) (B_nc2 X d))))
theorem B_nc_eq {d : Nat} : B_Notes_copyFrom X d = (sSeq (sCopy X (xgR [1] 0 (xr 1)) (xc 0) (xgR [1] 0 (xr 0)) (xc 0) (xc 100)) (sSeq (sCopy X (xgR [1] 3 (xr 1)) (xc 0) (xgR [1] 3 (xr 0)) (xc 0) (xc 6)) (sSeq (sCopy X (xgR [1] 4 (xr 1)) (xc 0) (xgR [1] 4 (xr 0)) (xc 0) (xc 6)) (B_nc1 X d)))) := rfl
set_option maxRecDepth 4000 in
theorem t_ncopyC {k j : Nat} (hd : 1 ≤ d) (hk : k < 2) (hj : j < 2) (hkj : ¬ k = j) (hK : K none (CH X dh st (va_up nt k (nt j)) t im)) : CALL X M_Notes_copyFrom d [.ref (NB X k), .ref (NB X j)] (CH X dh st nt t im) K := by
  have hjk : ¬ j = k := fun e => hkj e.symm
  obtain ⟨d, rfl⟩ : ∃ e, d = e + 1 := ⟨d - 1, by omega⟩
  refine call_of (by decide +kernel) (by decide) (F_Notes_copyFrom X d) (Nat.le_of_ble_eq_true rfl) ?_
  intro g
  rw [B_nc_eq]
  simp (disch := first | omega | rfl | (simp (disch := omega) only [vuS, vuN])) only [↓sSeq, ↓sI_f, ↓sL_f, ↓sR_f, ↓sInc_f, fE_c, eset_0, eset_1i, eset_1r, eset_1n, eset_1l, eset_ss, ↓sIf, ↓sBrk, ↓sCnt, ↓sRetI, ↓sRetL, ↓sRetR, ↓sRet, ↓sRetZ, ↓sSkip, ↓sSw, ↓sK, ↓sPop, ↓sFor_t, ↓sast, ↓sastC, ↓szst, ↓spst, ↓sput, ↓sputZ, ↓sputR, ↓sputN, ↓sputC, ↓sCopy,
    ↓xi, ↓xl, ↓xr, ↓xc, ↓xcl, ↓xadd, ↓xsub, ↓xmul, ↓xdiv, ↓xrem, ↓xand, ↓xor, ↓xxor, ↓xshl, ↓xshr, ↓xneg, ↓xaddl, ↓xsubl, ↓xmull, ↓xdivl, ↓xreml, ↓xnegl, ↓xi2l, ↓xi2c, ↓xofC, ↓xite, ↓xitel, ↓xiter, ↓xmax, ↓xmin, ↓xabs, ↓xabsl,
    ↓xg, ↓xgR, ↓xgO, ↓oR, ↓xald, ↓xzld, ↓xpld, ↓xlen, ↓xstr, ↓xinst, ↓cNot, ↓cAnd, ↓cOr, ↓cEq, ↓cLt, ↓cGt, ↓cEq0, ↓cLt0, ↓cGt0, ↓cEqL, ↓cLtL, ↓cGtL, ↓cEqO,
    ↓kI, ↓kL, ↓kR, ↓kV, ↓kS, ↓kD_e, ↓kP, ↓kT, ↓CALL_t, ↓vI, ↓vL, ↓vR, ↓aN, ↓aC, aenv_i, aenv_l, aenv_r, aenv_0, List.replicate, Nat.reduceSub, Nat.reduceAdd, eset2, kill, List.set_cons_zero, List.set_cons_succ, List.set_nil, List.getElem?_cons_zero, List.getElem?_cons_succ, List.getElem?_nil, List.mem_cons, List.not_mem_nil, or_false, or_true, true_and, and_true, true_or, false_or, false_and, and_false, not_false_eq_true, not_true_eq_false, forall_const, false_imp_iff, imp_false, true_imp_iff, if_true, if_false, implies_true, reduceIte, reduceCtorEq,
    ↓onO_CF, ↓onO_CT, ↓onI_CT1, ↓onO_CN, ↓onI_CN1, ↓onI_CN2, ↓onI_CN3, ↓onI_CN4, ↓onI_CN5, ↓onI_CN6, ↓onI_CN7, ↓onI_CN8, ↓onO_CS, ↓onI_CS1, ↓onP_CS2, ↓onI_CS3, ↓onI_CS4, ↓onI_CS5, ↓fR_f0, ↓fR_f1, ↓fR_f2, ↓fR_f3, ↓fR_f4, ↓fR_f5, ↓fI_f6, ↓fR_f7, ↓fR_t0, ↓fI_t1, ↓fR_s0, ↓fR_s1, ↓fR_s2, ↓fR_s3, ↓fR_s4, ↓fR_s5, ↓fO_s5, ↓fI_s6, ↓fI_s7, ↓fI_s8, ↓fI_s9, ↓fR_n0, ↓fI_n1, ↓fI_n2, ↓fR_n3, ↓fR_n4, ↓fI_n5, ↓fR_n6, ↓fR_n7, ↓fR_n8, ↓fI_n9, ↓fR_n10, ↓fR_n11, ↓fI_n12,
    CHu_F, CHu_T, CHu_T1, CHu_S5, CHu_S6, CHu_S7, CHu_S8, CHu_S9, CHu_a1, CHu_a2, CHu_a3, CHu_a4, CHu_a5, CHu_N1, CHu_N2, CHu_N5, CHu_N9, CHu_N12, CHu_b1, CHu_b2, CHu_b3, CHu_b4, CHu_b5, CHu_b6, CHu_b7, CHu_b8, ffs_len, tfs_len, sfs_len, nfs_len, sl_i, vuS, vuN, vuV, fS_s, Nat.reduceLT, Nat.reduceEqDiff, Nat.le_refl, nI_add, nI_mulN, lit32, nI_clamp, vp_in_nI, nI_ltI, nI_eq, nI_leI, Nat.reduceMul, Nat.zero_add, Nat.add_zero, M_Notes_copyFrom, sl_cpy, CHu_v1, CHu_v2, CHu_v3, CHu_v4, CHu_v5, CHu_v6, CHu_v7, CHu_v8]
  simp (disch := first | omega | rfl | (simp (disch := omega) only [vuS, vuN])) only [↓sSeq, ↓sI_f, ↓sL_f, ↓sR_f, ↓sInc_f, fE_c, eset_0, eset_1i, eset_1r, eset_1n, eset_1l, eset_ss, ↓sIf, ↓sBrk, ↓sCnt, ↓sRetI, ↓sRetL, ↓sRetR, ↓sRet, ↓sRetZ, ↓sSkip, ↓sSw, ↓sK, ↓sPop, ↓sFor_t, ↓sast, ↓sastC, ↓szst, ↓spst, ↓sput, ↓sputZ, ↓sputR, ↓sputN, ↓sputC, ↓sCopy,
    ↓xi, ↓xl, ↓xr, ↓xc, ↓xcl, ↓xadd, ↓xsub, ↓xmul, ↓xdiv, ↓xrem, ↓xand, ↓xor, ↓xxor, ↓xshl, ↓xshr, ↓xneg, ↓xaddl, ↓xsubl, ↓xmull, ↓xdivl, ↓xreml, ↓xnegl, ↓xi2l, ↓xi2c, ↓xofC, ↓xite, ↓xitel, ↓xiter, ↓xmax, ↓xmin, ↓xabs, ↓xabsl,
    ↓xg, ↓xgR, ↓xgO, ↓oR, ↓xald, ↓xzld, ↓xpld, ↓xlen, ↓xstr, ↓xinst, ↓cNot, ↓cAnd, ↓cOr, ↓cEq, ↓cLt, ↓cGt, ↓cEq0, ↓cLt0, ↓cGt0, ↓cEqL, ↓cLtL, ↓cGtL, ↓cEqO,
    ↓kI, ↓kL, ↓kR, ↓kV, ↓kS, ↓kD_e, ↓kP, ↓kT, ↓CALL_t, ↓vI, ↓vL, ↓vR, ↓aN, ↓aC, aenv_i, aenv_l, aenv_r, aenv_0, List.replicate, Nat.reduceSub, Nat.reduceAdd, eset2, kill, List.set_cons_zero, List.set_cons_succ, List.set_nil, List.getElem?_cons_zero, List.getElem?_cons_succ, List.getElem?_nil, List.mem_cons, List.not_mem_nil, or_false, or_true, true_and, and_true, true_or, false_or, false_and, and_false, not_false_eq_true, not_true_eq_false, forall_const, false_imp_iff, imp_false, true_imp_iff, if_true, if_false, implies_true, reduceIte, reduceCtorEq,
    ↓onO_CF, ↓onO_CT, ↓onI_CT1, ↓onO_CN, ↓onI_CN1, ↓onI_CN2, ↓onI_CN3, ↓onI_CN4, ↓onI_CN5, ↓onI_CN6, ↓onI_CN7, ↓onI_CN8, ↓onO_CS, ↓onI_CS1, ↓onP_CS2, ↓onI_CS3, ↓onI_CS4, ↓onI_CS5, ↓fR_f0, ↓fR_f1, ↓fR_f2, ↓fR_f3, ↓fR_f4, ↓fR_f5, ↓fI_f6, ↓fR_f7, ↓fR_t0, ↓fI_t1, ↓fR_s0, ↓fR_s1, ↓fR_s2, ↓fR_s3, ↓fR_s4, ↓fR_s5, ↓fO_s5, ↓fI_s6, ↓fI_s7, ↓fI_s8, ↓fI_s9, ↓fR_n0, ↓fI_n1, ↓fI_n2, ↓fR_n3, ↓fR_n4, ↓fI_n5, ↓fR_n6, ↓fR_n7, ↓fR_n8, ↓fI_n9, ↓fR_n10, ↓fR_n11, ↓fI_n12,
    CHu_F, CHu_T, CHu_T1, CHu_S5, CHu_S6, CHu_S7, CHu_S8, CHu_S9, CHu_a1, CHu_a2, CHu_a3, CHu_a4, CHu_a5, CHu_N1, CHu_N2, CHu_N5, CHu_N9, CHu_N12, CHu_b1, CHu_b2, CHu_b3, CHu_b4, CHu_b5, CHu_b6, CHu_b7, CHu_b8, ffs_len, tfs_len, sfs_len, nfs_len, sl_i, vuS, vuN, vuV, fS_s, Nat.reduceLT, Nat.reduceEqDiff, Nat.le_refl, nI_add, nI_mulN, lit32, nI_clamp, vp_in_nI, nI_ltI, nI_eq, nI_leI, Nat.reduceMul, Nat.zero_add, Nat.add_zero, B_nc1, sl_cpy, CHu_v1, CHu_v2, CHu_v3, CHu_v4, CHu_v5, CHu_v6, CHu_v7, CHu_v8]
  simp (disch := first | omega | rfl | (simp (disch := omega) only [vuS, vuN])) only [↓sSeq, ↓sI_f, ↓sL_f, ↓sR_f, ↓sInc_f, fE_c, eset_0, eset_1i, eset_1r, eset_1n, eset_1l, eset_ss, ↓sIf, ↓sBrk, ↓sCnt, ↓sRetI, ↓sRetL, ↓sRetR, ↓sRet, ↓sRetZ, ↓sSkip, ↓sSw, ↓sK, ↓sPop, ↓sFor_t, ↓sast, ↓sastC, ↓szst, ↓spst, ↓sput, ↓sputZ, ↓sputR, ↓sputN, ↓sputC, ↓sCopy,
    ↓xi, ↓xl, ↓xr, ↓xc, ↓xcl, ↓xadd, ↓xsub, ↓xmul, ↓xdiv, ↓xrem, ↓xand, ↓xor, ↓xxor, ↓xshl, ↓xshr, ↓xneg, ↓xaddl, ↓xsubl, ↓xmull, ↓xdivl, ↓xreml, ↓xnegl, ↓xi2l, ↓xi2c, ↓xofC, ↓xite, ↓xitel, ↓xiter, ↓xmax, ↓xmin, ↓xabs, ↓xabsl,
    ↓xg, ↓xgR, ↓xgO, ↓oR, ↓xald, ↓xzld, ↓xpld, ↓xlen, ↓xstr, ↓xinst, ↓cNot, ↓cAnd, ↓cOr, ↓cEq, ↓cLt, ↓cGt, ↓cEq0, ↓cLt0, ↓cGt0, ↓cEqL, ↓cLtL, ↓cGtL, ↓cEqO,
    ↓kI, ↓kL, ↓kR, ↓kV, ↓kS, ↓kD_e, ↓kP, ↓kT, ↓CALL_t, ↓vI, ↓vL, ↓vR, ↓aN, ↓aC, aenv_i, aenv_l, aenv_r, aenv_0, List.replicate, Nat.reduceSub, Nat.reduceAdd, eset2, kill, List.set_cons_zero, List.set_cons_succ, List.set_nil, List.getElem?_cons_zero, List.getElem?_cons_succ, List.getElem?_nil, List.mem_cons, List.not_mem_nil, or_false, or_true, true_and, and_true, true_or, false_or, false_and, and_false, not_false_eq_true, not_true_eq_false, forall_const, false_imp_iff, imp_false, true_imp_iff, if_true, if_false, implies_true, reduceIte, reduceCtorEq,
    ↓onO_CF, ↓onO_CT, ↓onI_CT1, ↓onO_CN, ↓onI_CN1, ↓onI_CN2, ↓onI_CN3, ↓onI_CN4, ↓onI_CN5, ↓onI_CN6, ↓onI_CN7, ↓onI_CN8, ↓onO_CS, ↓onI_CS1, ↓onP_CS2, ↓onI_CS3, ↓onI_CS4, ↓onI_CS5, ↓fR_f0, ↓fR_f1, ↓fR_f2, ↓fR_f3, ↓fR_f4, ↓fR_f5, ↓fI_f6, ↓fR_f7, ↓fR_t0, ↓fI_t1, ↓fR_s0, ↓fR_s1, ↓fR_s2, ↓fR_s3, ↓fR_s4, ↓fR_s5, ↓fO_s5, ↓fI_s6, ↓fI_s7, ↓fI_s8, ↓fI_s9, ↓fR_n0, ↓fI_n1, ↓fI_n2, ↓fR_n3, ↓fR_n4, ↓fI_n5, ↓fR_n6, ↓fR_n7, ↓fR_n8, ↓fI_n9, ↓fR_n10, ↓fR_n11, ↓fI_n12,
    CHu_F, CHu_T, CHu_T1, CHu_S5, CHu_S6, CHu_S7, CHu_S8, CHu_S9, CHu_a1, CHu_a2, CHu_a3, CHu_a4, CHu_a5, CHu_N1, CHu_N2, CHu_N5, CHu_N9, CHu_N12, CHu_b1, CHu_b2, CHu_b3, CHu_b4, CHu_b5, CHu_b6, CHu_b7, CHu_b8, ffs_len, tfs_len, sfs_len, nfs_len, sl_i, vuS, vuN, vuV, fS_s, Nat.reduceLT, Nat.reduceEqDiff, Nat.le_refl, nI_add, nI_mulN, lit32, nI_clamp, vp_in_nI, nI_ltI, nI_eq, nI_leI, Nat.reduceMul, Nat.zero_add, Nat.add_zero, B_nc2, sl_cpy, CHu_v1, CHu_v2, CHu_v3, CHu_v4, CHu_v5, CHu_v6, CHu_v7, CHu_v8]
  refine Eq.mp (congrArg (K none) (CH_nt (S := nt j) hk (fun i h1 h2 => ?_) (fun i h1 h2 => ?_))) hK
  · rcases (by omega : i = 15 ∨ i = 14 ∨ i = 13 ∨ i = 12 ∨ i = 16) with rfl | rfl | rfl | rfl | rfl
    · rw [upd_s]
    · rw [upd_n (by omega), upd_s]
    · rw [upd_n (by omega), upd_n (by omega), upd_s]
    · rw [upd_n (by omega), upd_n (by omega), upd_n (by omega), upd_s]
    · rw [upd_n (by omega), upd_n (by omega), upd_n (by omega), upd_n (by omega), upd_s]
  · rw [upd_n (by omega), upd_n (by omega), upd_n (by omega), upd_n (by omega), upd_n (by omega)]
    rcases (by omega : 100 ≤ i ∨ (92 ≤ i ∧ i < 100) ∨ (84 ≤ i ∧ i < 92) ∨ (80 ≤ i ∧ i < 84) ∨ (76 ≤ i ∧ i < 80) ∨ (72 ≤ i ∧ i < 76) ∨ (66 ≤ i ∧ i < 72) ∨ i < 66) with q | q | q | q | q | q | q | q
    · rw [mix_o (by omega), mix_o (by omega), mix_o (by omega), mix_o (by omega), mix_o (by omega), mix_o (by omega), mix_o (by omega), mix_i (by omega)]
    · rw [mix_i (by omega)]
    · rw [mix_o (by omega), mix_i (by omega)]
    · rw [mix_o (by omega), mix_o (by omega), mix_i (by omega)]
    · rw [mix_o (by omega), mix_o (by omega), mix_o (by omega), mix_i (by omega)]
    · rw [mix_o (by omega), mix_o (by omega), mix_o (by omega), mix_o (by omega), mix_i (by omega)]
    · rw [mix_o (by omega), mix_o (by omega), mix_o (by omega), mix_o (by omega), mix_o (by omega), mix_i (by omega)]
    · rw [mix_o (by omega), mix_o (by omega), mix_o (by omega), mix_o (by omega), mix_o (by omega), mix_o (by omega), mix_i (by omega)]
end CPY
