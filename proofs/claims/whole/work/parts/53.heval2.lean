section HEV2
variable {X : WX} {d : Nat} {h : HM} {K : Option Value → HM → Prop}
theorem up_up {a : Nat} {e e' : va_E} : up (up h a e) a e' = up h a e' := by
  funext b; unfold up; by_cases q : b = a <;> simp [q]
theorem up_self {a : Nat} {e : va_E} (q : h a = some e) : up h a e = h := by
  funext b; unfold up; by_cases q2 : b = a
  · subst q2; simp [q]
  · simp [q2]
theorem iA_n {n m : Nat} {f g : Nat → Int32} (q : iA X n f = iA X m g) : n = m := by
  injection q with q; injection q with _ q; injection q
theorem ne_nn {p r n m : Nat} {f g : Nat → Int32} (hn : n ≠ m) (h1 : h p = some (iA X n f)) (h2 : h r = some (iA X m g)) : ¬ p = r := fun q => by
  subst q; rw [h1] at h2; exact hn (iA_n (Option.some.inj h2))
theorem ne_on {p r c n : Nat} {fs : List Value} {f : Nat → Int32} (h1 : h p = some (ob c fs)) (h2 : h r = some (iA X n f)) : ¬ p = r := fun q => by
  subst q; rw [h1] at h2; cases h2
theorem ne_no {p r c n : Nat} {fs : List Value} {f : Nat → Int32} (h1 : h p = some (iA X n f)) (h2 : h r = some (ob c fs)) : ¬ p = r := fun q => ne_on h2 h1 q.symm
theorem ne_oo {p r c c' : Nat} {fs fs' : List Value} (hn : c ≠ c') (h1 : h p = some (ob c fs)) (h2 : h r = some (ob c' fs')) : ¬ p = r := fun q => by
  subst q; rw [h1] at h2; injection h2 with h2; injection h2 with h2; injection h2 with h2; exact hn h2
/-- what the tests look at -/
def eP (q : PD) (c w s : Int32) : Nat → Int32 := fun k => if k = 0 then nI q.2.1 else if k = 1 then nI q.1 else if k = 2 then q.2.2 else if k = 3 then c else if k = 4 then w else s
theorem evalR_ext {e e' : Nat → Int32} (he : ∀ k, k < 6 → e k = e' k) : ∀ {l : List Int32} {st : List Bool} {sum : Int32}, okQ st.length l → evalR e l st sum = evalR e' l st sum
  | [], st, sum, _ => rfl
  | s :: t, st, sum, h => by
    rcases h with ⟨c, rfl, h2, h3, h4, h5, h6⟩ | ⟨rfl, h2, h3⟩ | ⟨h1, h2, h3⟩ | ⟨c, h1, h2, h3, h4⟩
    · rw [evalR_test (by omega), evalR_test (by omega)]
      have : tstOf e c = tstOf e' c := by unfold tstOf; rw [he _ h3]
      rw [this]
      exact evalR_ext he (by simpa using h6)
    · cases st with
      | nil => simp at h2
      | cons b st =>
        simp only [evalR, if_true]
        rw [if_neg (by decide), if_neg (by decide)]
        exact evalR_ext he (by simpa using h3)
    · cases st with
      | nil => simp at h2
      | cons b st =>
        cases st with
        | nil => simp at h2
        | cons a st =>
          have g1 : ¬ (0 : Int32) ≤ s := by rcases h1 with rfl | rfl <;> decide
          have g2 : ¬ s = -1 := by rcases h1 with rfl | rfl <;> decide
          have g3 : -10 < s := by rcases h1 with rfl | rfl <;> decide
          simp only [evalR]
          rw [if_neg g1, if_neg g2, if_pos g3, if_neg g1, if_neg g2, if_pos g3]
          exact evalR_ext he (by simpa using h3)
    · obtain ⟨f1, f2, f3, -⟩ := end_facts h1 h2
      cases st with
      | nil => simp at h3
      | cons b st =>
        simp only [evalR]
        rw [if_neg f1, if_neg f2, if_neg f3, if_neg f1, if_neg f2, if_neg f3]
        exact evalR_ext he h4
theorem lst_i {l : List Int32} {i : Nat} {x : Int32} (h : l[i]? = some x) : lst l i = x := by unfold lst; rw [h]; rfl
theorem t_hmarg (hd : 3 ≤ d) {b t a : Nat} {l ea x y z c w s : Int32} {L : List Int32} {v : Nat → Int32} {q : PD} {o : Option Nat} (hb : h b = some (ob 3 (hfs b t l ea (nI (cE 0 L).length) x y z))) (h1 : h (b + 1) = some (iA X 10 (lst ((cE 0 L).map (fun p => p.1))))) (h2 : h (b + 2) = some (iA X 10 (lst ((cE 0 L).map (fun p => nI p.2))))) (h3 : h (b + 3) = some (iA X 100 (lst (cd L)))) (h4 : h (b + 4) = some (iA X 6 v)) (ha : h a = some (ob (4 + q.1) (pfs a q o))) (hq : q.1 < 7) (hok : okQ 0 L) (hcd : (cd L).length ≤ 100) (hcE : (cE 0 L).length ≤ 10)
    (hK : ∀ v', K (some (.int (evalR (eP q c w s) L [] 0))) (up h (b + 4) (iA X 6 v'))) : CALL X M_House_marginOf d [.ref b, .ref a, .int c, .int w, .int s] h K := by
  have qb0 : ∀ v', up h (b + 4) (iA X 6 v') b = some (ob 3 (hfs b t l ea (nI (cE 0 L).length) x y z)) := fun v' => by rw [up_n (by omega)]; exact hb
  have q10 : ∀ v', up h (b + 4) (iA X 6 v') (b + 1) = some (iA X 10 (lst ((cE 0 L).map (fun p => p.1)))) := fun v' => by rw [up_n (by omega)]; exact h1
  have q20 : ∀ v', up h (b + 4) (iA X 6 v') (b + 2) = some (iA X 10 (lst ((cE 0 L).map (fun p => nI p.2)))) := fun v' => by rw [up_n (by omega)]; exact h2
  have q30 : ∀ v', up h (b + 4) (iA X 6 v') (b + 3) = some (iA X 100 (lst (cd L))) := fun v' => by rw [up_n (by omega)]; exact h3
  have qa0 : ∀ v', up h (b + 4) (iA X 6 v') a = some (ob (4 + q.1) (pfs a q o)) := fun v' => by rw [up_n (ne_on ha h4)]; exact ha
  have qb : ∀ v' (P : Nat → List Value → Prop), onO (up h (b + 4) (iA X 6 v') b) P = P 3 (hfs b t l ea (nI (cE 0 L).length) x y z) := fun v' P => onO_h (qb0 v')
  have qa : ∀ v' (P : Nat → List Value → Prop), onO (up h (b + 4) (iA X 6 v') a) P = P (4 + q.1) (pfs a q o) := fun v' P => onO_h (qa0 v')
  have q1 : ∀ v' (P : Nat → (Nat → Int32) → Prop), onI X (up h (b + 4) (iA X 6 v') (b + 1)) P = P 10 (lst ((cE 0 L).map (fun p => p.1))) := fun v' P => onI_h (q10 v')
  have q2 : ∀ v' (P : Nat → (Nat → Int32) → Prop), onI X (up h (b + 4) (iA X 6 v') (b + 2)) P = P 10 (lst ((cE 0 L).map (fun p => nI p.2))) := fun v' P => onI_h (q20 v')
  have q4 : ∀ v' (P : Nat → (Nat → Int32) → Prop), onI X (up h (b + 4) (iA X 6 v') (b + 4)) P = P 6 v' := fun v' P => onI_h up_s
  have hcl : 4 + q.1 ∈ [4, 5, 6, 7, 8, 9, 10] := by
    have : q.1 = 0 ∨ q.1 = 1 ∨ q.1 = 2 ∨ q.1 = 3 ∨ q.1 = 4 ∨ q.1 = 5 ∨ q.1 = 6 := by omega
    rcases this with e | e | e | e | e | e | e <;> rw [e] <;> decide
  have hcl2 : (4 + q.1 = 4 ∨ 4 + q.1 = 5 ∨ 4 + q.1 = 6 ∨ 4 + q.1 = 7 ∨ 4 + q.1 = 8 ∨ 4 + q.1 = 9 ∨ 4 + q.1 = 10) = True := eq_true (by simpa using hcl)
  rw [← up_self h4]
  generalize hfin : evalR (eP q c w s) L [] 0 = fin at hK
  obtain ⟨d, rfl⟩ : ∃ e, d = e + 1 := ⟨d - 1, by omega⟩
  refine call_of (by decide +kernel) (by decide) (F_House_marginOf X d) (Nat.le_of_ble_eq_true rfl) ?_
  intro g
  simp (disch := omega) only [↓sSeq, ↓sI_f, ↓sL_f, ↓sR_f, ↓sInc_f, fE_c, eset_0, eset_1i, eset_1r, eset_1n, eset_1l, eset_ss, ↓sIf, ↓sBrk, ↓sCnt, ↓sRetI, ↓sRetL, ↓sRetR, ↓sRet, ↓sRetZ, ↓sSkip, ↓sSw, ↓sK, ↓sPop, ↓sFor_t, ↓sast, ↓sastC, ↓szst, ↓spst, ↓sput, ↓sputZ, ↓sputR, ↓sputN, ↓sputC, ↓sCopy,
    ↓xi, ↓xl, ↓xr, ↓xc, ↓xcl, ↓xadd, ↓xsub, ↓xmul, ↓xdiv, ↓xrem, ↓xand, ↓xor, ↓xxor, ↓xshl, ↓xshr, ↓xneg, ↓xaddl, ↓xsubl, ↓xmull, ↓xdivl, ↓xreml, ↓xnegl, ↓xi2l, ↓xi2c, ↓xofC, ↓xite, ↓xitel, ↓xiter, ↓xmax, ↓xmin, ↓xabs, ↓xabsl,
    ↓xg, ↓xgR, ↓xgO, ↓oR, ↓xald, ↓xzld, ↓xpld, ↓xlen, ↓xstr, ↓xinst, ↓cNot, ↓cAnd, ↓cOr, ↓cEq, ↓cLt, ↓cGt, ↓cEq0, ↓cLt0, ↓cGt0, ↓cEqL, ↓cLtL, ↓cGtL, ↓cEqO,
    ↓kI, ↓kL, ↓kR, ↓kV, ↓kS, ↓kD_e, ↓kP, ↓kT, ↓CALL_t, ↓vI, ↓vL, ↓vR, ↓aN, ↓aC, aenv_i, aenv_l, aenv_r, aenv_0, List.replicate, Nat.reduceSub, Nat.reduceAdd, eset2, kill, List.set_cons_zero, List.set_cons_succ, List.set_nil, List.getElem?_cons_zero, List.getElem?_cons_succ, List.getElem?_nil, List.mem_cons, List.not_mem_nil, or_false, or_true, true_and, and_true, true_or, false_or, false_and, and_false, not_false_eq_true, not_true_eq_false, forall_const, false_imp_iff, imp_false, true_imp_iff, if_true, if_false, implies_true, reduceIte, reduceCtorEq,
    ↓fI_h0, ↓fI_h1, ↓fR_h2, ↓fR_h3, ↓fI_h4, ↓fR_h5, ↓fI_h6, ↓fR_h7, ↓fR_h8, ↓fI_h9, ↓fI_h10, ↓fI_p0, ↓fI_p1, ↓fR_p2, ↓fO_p3, hfs_s0, hfs_s1, hfs_s4, hfs_s6, hfs_s8, hfs_s9, hfs_s10, hfs_len, pfs_len, pfs_s3, Nat.reduceLT, Nat.reduceEqDiff, nI_add, nI_mulN, lit32, nI_clamp, vp_in_nI, nI_ltI, nI_eq, nI_leI, Nat.reduceMul, Nat.zero_add, Nat.add_zero, B_House_marginOf, M_House_marginOf, ↓qb, ↓qa, ↓q1, ↓q2, ↓q4, up_up, hcl2]
  refine d_kind (by omega) hq (qa0 _) ?_
  simp (disch := omega) only [↓sSeq, ↓sI_f, ↓sL_f, ↓sR_f, ↓sInc_f, fE_c, eset_0, eset_1i, eset_1r, eset_1n, eset_1l, eset_ss, ↓sIf, ↓sBrk, ↓sCnt, ↓sRetI, ↓sRetL, ↓sRetR, ↓sRet, ↓sRetZ, ↓sSkip, ↓sSw, ↓sK, ↓sPop, ↓sFor_t, ↓sast, ↓sastC, ↓szst, ↓spst, ↓sput, ↓sputZ, ↓sputR, ↓sputN, ↓sputC, ↓sCopy,
    ↓xi, ↓xl, ↓xr, ↓xc, ↓xcl, ↓xadd, ↓xsub, ↓xmul, ↓xdiv, ↓xrem, ↓xand, ↓xor, ↓xxor, ↓xshl, ↓xshr, ↓xneg, ↓xaddl, ↓xsubl, ↓xmull, ↓xdivl, ↓xreml, ↓xnegl, ↓xi2l, ↓xi2c, ↓xofC, ↓xite, ↓xitel, ↓xiter, ↓xmax, ↓xmin, ↓xabs, ↓xabsl,
    ↓xg, ↓xgR, ↓xgO, ↓oR, ↓xald, ↓xzld, ↓xpld, ↓xlen, ↓xstr, ↓xinst, ↓cNot, ↓cAnd, ↓cOr, ↓cEq, ↓cLt, ↓cGt, ↓cEq0, ↓cLt0, ↓cGt0, ↓cEqL, ↓cLtL, ↓cGtL, ↓cEqO,
    ↓kI, ↓kL, ↓kR, ↓kV, ↓kS, ↓kD_e, ↓kP, ↓kT, ↓CALL_t, ↓vI, ↓vL, ↓vR, ↓aN, ↓aC, aenv_i, aenv_l, aenv_r, aenv_0, List.replicate, Nat.reduceSub, Nat.reduceAdd, eset2, kill, List.set_cons_zero, List.set_cons_succ, List.set_nil, List.getElem?_cons_zero, List.getElem?_cons_succ, List.getElem?_nil, List.mem_cons, List.not_mem_nil, or_false, or_true, true_and, and_true, true_or, false_or, false_and, and_false, not_false_eq_true, not_true_eq_false, forall_const, false_imp_iff, imp_false, true_imp_iff, if_true, if_false, implies_true, reduceIte, reduceCtorEq,
    ↓fI_h0, ↓fI_h1, ↓fR_h2, ↓fR_h3, ↓fI_h4, ↓fR_h5, ↓fI_h6, ↓fR_h7, ↓fR_h8, ↓fI_h9, ↓fI_h10, ↓fI_p0, ↓fI_p1, ↓fR_p2, ↓fO_p3, hfs_s0, hfs_s1, hfs_s4, hfs_s6, hfs_s8, hfs_s9, hfs_s10, hfs_len, pfs_len, pfs_s3, Nat.reduceLT, Nat.reduceEqDiff, nI_add, nI_mulN, lit32, nI_clamp, vp_in_nI, nI_ltI, nI_eq, nI_leI, Nat.reduceMul, Nat.zero_add, Nat.add_zero, ↓qb, ↓qa, ↓q1, ↓q2, ↓q4, up_up, hcl2]
  generalize hv' : upd (upd (upd (upd (upd (upd v 0 (nI q.2.1)) 1 (nI q.1)) 2 q.2.2) 3 c) 4 w) 5 s = v'
  have hve : ∀ k, k < 6 → v' k = eP q c w s k := fun k hk => by
    subst hv'
    have : k = 0 ∨ k = 1 ∨ k = 2 ∨ k = 3 ∨ k = 4 ∨ k = 5 := by omega
    rcases this with rfl | rfl | rfl | rfl | rfl | rfl <;> simp [upd, eP]
  have hfin : evalR v' L [] 0 = fin := by rw [evalR_ext (st := []) hve hok]; exact hfin
  refine for_rule (fun n env σ => ∃ (rest : List Int32) (fm i : Nat) (m : Int32), n = (cE fm rest).length ∧ okQ 0 rest ∧ (cd L).drop fm = cd rest ∧ fm ≤ (cd L).length ∧ (cE 0 L).drop i = cE fm rest ∧ i ≤ (cE 0 L).length ∧ evalR v' rest [] m = fin ∧ env = [some (.ref b), some (.ref a), some (.int c), some (.int w), some (.int s), some (.int m), some (.int (nI fm)), some (.int (nI i))] ∧ σ = (up h (b + 4) (iA X 6 v'), g)) (cE 0 L).length ⟨L, 0, 0, 0, rfl, hok, rfl, by omega, rfl, by omega, hfin, rfl, rfl⟩ ?_
  rintro n env σ P ⟨rest, fm, i, m, hn, hok, hD, hfm, hE, hi, hf, rfl, rfl⟩ hP
  simp (disch := omega) only [↓sSeq, ↓sI_f, ↓sL_f, ↓sR_f, ↓sInc_f, fE_c, eset_0, eset_1i, eset_1r, eset_1n, eset_1l, eset_ss, ↓sIf, ↓sBrk, ↓sCnt, ↓sRetI, ↓sRetL, ↓sRetR, ↓sRet, ↓sRetZ, ↓sSkip, ↓sSw, ↓sK, ↓sPop, ↓sFor_t, ↓sast, ↓sastC, ↓szst, ↓spst, ↓sput, ↓sputZ, ↓sputR, ↓sputN, ↓sputC, ↓sCopy,
    ↓xi, ↓xl, ↓xr, ↓xc, ↓xcl, ↓xadd, ↓xsub, ↓xmul, ↓xdiv, ↓xrem, ↓xand, ↓xor, ↓xxor, ↓xshl, ↓xshr, ↓xneg, ↓xaddl, ↓xsubl, ↓xmull, ↓xdivl, ↓xreml, ↓xnegl, ↓xi2l, ↓xi2c, ↓xofC, ↓xite, ↓xitel, ↓xiter, ↓xmax, ↓xmin, ↓xabs, ↓xabsl,
    ↓xg, ↓xgR, ↓xgO, ↓oR, ↓xald, ↓xzld, ↓xpld, ↓xlen, ↓xstr, ↓xinst, ↓cNot, ↓cAnd, ↓cOr, ↓cEq, ↓cLt, ↓cGt, ↓cEq0, ↓cLt0, ↓cGt0, ↓cEqL, ↓cLtL, ↓cGtL, ↓cEqO,
    ↓kI, ↓kL, ↓kR, ↓kV, ↓kS, ↓kD_e, ↓kP, ↓kT, ↓CALL_t, ↓vI, ↓vL, ↓vR, ↓aN, ↓aC, aenv_i, aenv_l, aenv_r, aenv_0, List.replicate, Nat.reduceSub, Nat.reduceAdd, eset2, kill, List.set_cons_zero, List.set_cons_succ, List.set_nil, List.getElem?_cons_zero, List.getElem?_cons_succ, List.getElem?_nil, List.mem_cons, List.not_mem_nil, or_false, or_true, true_and, and_true, true_or, false_or, false_and, and_false, not_false_eq_true, not_true_eq_false, forall_const, false_imp_iff, imp_false, true_imp_iff, if_true, if_false, implies_true, reduceIte, reduceCtorEq,
    ↓fI_h0, ↓fI_h1, ↓fR_h2, ↓fR_h3, ↓fI_h4, ↓fR_h5, ↓fI_h6, ↓fR_h7, ↓fR_h8, ↓fI_h9, ↓fI_h10, ↓fI_p0, ↓fI_p1, ↓fR_p2, ↓fO_p3, hfs_s0, hfs_s1, hfs_s4, hfs_s6, hfs_s8, hfs_s9, hfs_s10, hfs_len, pfs_len, pfs_s3, Nat.reduceLT, Nat.reduceEqDiff, nI_add, nI_mulN, lit32, nI_clamp, vp_in_nI, nI_ltI, nI_eq, nI_leI, Nat.reduceMul, Nat.zero_add, Nat.add_zero, ↓qb, ↓qa, ↓q1, ↓q2, ↓q4, up_up, hcl2]
  have hlE : (cE 0 L).length - i = (cE fm rest).length := by rw [← hE, List.length_drop]
  refine ⟨fun z => ?_, fun z => ?_⟩
  · have hr : ¬ rest = [] := fun e => by subst e; simp [cE] at hlE; omega
    have hc := cE_rst (k := fm) hok (Or.inr hr)
    have hei : (cE 0 L)[i]? = some (minu (hdE rest), fm + clz rest) := by
      have := congrArg (fun l : List (Int32 × Nat) => l[0]?) (hE.trans hc)
      simpa [List.getElem?_drop] using this
    have hlr : fm + (cd rest).length = (cd L).length := by rw [← hD, List.length_drop]; omega
    have g1 : lst ((cE 0 L).map (fun p => p.1)) i = minu (hdE rest) := lst_i (by rw [List.getElem?_map, hei]; rfl)
    have g2 : lst ((cE 0 L).map (fun p => nI p.2)) i = nI (fm + clz rest) := lst_i (by rw [List.getElem?_map, hei]; rfl)
    have hcz := clz_le (l := rest)
    simp (disch := omega) only [↓sSeq, ↓sI_f, ↓sL_f, ↓sR_f, ↓sInc_f, fE_c, eset_0, eset_1i, eset_1r, eset_1n, eset_1l, eset_ss, ↓sIf, ↓sBrk, ↓sCnt, ↓sRetI, ↓sRetL, ↓sRetR, ↓sRet, ↓sRetZ, ↓sSkip, ↓sSw, ↓sK, ↓sPop, ↓sFor_t, ↓sast, ↓sastC, ↓szst, ↓spst, ↓sput, ↓sputZ, ↓sputR, ↓sputN, ↓sputC, ↓sCopy,
    ↓xi, ↓xl, ↓xr, ↓xc, ↓xcl, ↓xadd, ↓xsub, ↓xmul, ↓xdiv, ↓xrem, ↓xand, ↓xor, ↓xxor, ↓xshl, ↓xshr, ↓xneg, ↓xaddl, ↓xsubl, ↓xmull, ↓xdivl, ↓xreml, ↓xnegl, ↓xi2l, ↓xi2c, ↓xofC, ↓xite, ↓xitel, ↓xiter, ↓xmax, ↓xmin, ↓xabs, ↓xabsl,
    ↓xg, ↓xgR, ↓xgO, ↓oR, ↓xald, ↓xzld, ↓xpld, ↓xlen, ↓xstr, ↓xinst, ↓cNot, ↓cAnd, ↓cOr, ↓cEq, ↓cLt, ↓cGt, ↓cEq0, ↓cLt0, ↓cGt0, ↓cEqL, ↓cLtL, ↓cGtL, ↓cEqO,
    ↓kI, ↓kL, ↓kR, ↓kV, ↓kS, ↓kD_e, ↓kP, ↓kT, ↓CALL_t, ↓vI, ↓vL, ↓vR, ↓aN, ↓aC, aenv_i, aenv_l, aenv_r, aenv_0, List.replicate, Nat.reduceSub, Nat.reduceAdd, eset2, kill, List.set_cons_zero, List.set_cons_succ, List.set_nil, List.getElem?_cons_zero, List.getElem?_cons_succ, List.getElem?_nil, List.mem_cons, List.not_mem_nil, or_false, or_true, true_and, and_true, true_or, false_or, false_and, and_false, not_false_eq_true, not_true_eq_false, forall_const, false_imp_iff, imp_false, true_imp_iff, if_true, if_false, implies_true, reduceIte, reduceCtorEq,
    ↓fI_h0, ↓fI_h1, ↓fR_h2, ↓fR_h3, ↓fI_h4, ↓fR_h5, ↓fI_h6, ↓fR_h7, ↓fR_h8, ↓fI_h9, ↓fI_h10, ↓fI_p0, ↓fI_p1, ↓fR_p2, ↓fO_p3, hfs_s0, hfs_s1, hfs_s4, hfs_s6, hfs_s8, hfs_s9, hfs_s10, hfs_len, pfs_len, pfs_s3, Nat.reduceLT, Nat.reduceEqDiff, nI_add, nI_mulN, lit32, nI_clamp, vp_in_nI, nI_ltI, nI_eq, nI_leI, Nat.reduceMul, Nat.zero_add, Nat.add_zero, L_House_marginOf_1, ↓qb, ↓qa, ↓q1, ↓q2, ↓q4, up_up, hcl2, g2]
    refine t_holds (by omega) (qb0 v') (q30 v') up_s hok (fun t s ht => lst_i (by rw [← List.getElem?_drop, hD]; exact ht)) (by omega) ?_
    simp (disch := omega) only [↓sSeq, ↓sI_f, ↓sL_f, ↓sR_f, ↓sInc_f, fE_c, eset_0, eset_1i, eset_1r, eset_1n, eset_1l, eset_ss, ↓sIf, ↓sBrk, ↓sCnt, ↓sRetI, ↓sRetL, ↓sRetR, ↓sRet, ↓sRetZ, ↓sSkip, ↓sSw, ↓sK, ↓sPop, ↓sFor_t, ↓sast, ↓sastC, ↓szst, ↓spst, ↓sput, ↓sputZ, ↓sputR, ↓sputN, ↓sputC, ↓sCopy,
    ↓xi, ↓xl, ↓xr, ↓xc, ↓xcl, ↓xadd, ↓xsub, ↓xmul, ↓xdiv, ↓xrem, ↓xand, ↓xor, ↓xxor, ↓xshl, ↓xshr, ↓xneg, ↓xaddl, ↓xsubl, ↓xmull, ↓xdivl, ↓xreml, ↓xnegl, ↓xi2l, ↓xi2c, ↓xofC, ↓xite, ↓xitel, ↓xiter, ↓xmax, ↓xmin, ↓xabs, ↓xabsl,
    ↓xg, ↓xgR, ↓xgO, ↓oR, ↓xald, ↓xzld, ↓xpld, ↓xlen, ↓xstr, ↓xinst, ↓cNot, ↓cAnd, ↓cOr, ↓cEq, ↓cLt, ↓cGt, ↓cEq0, ↓cLt0, ↓cGt0, ↓cEqL, ↓cLtL, ↓cGtL, ↓cEqO,
    ↓kI, ↓kL, ↓kR, ↓kV, ↓kS, ↓kD_e, ↓kP, ↓kT, ↓CALL_t, ↓vI, ↓vL, ↓vR, ↓aN, ↓aC, aenv_i, aenv_l, aenv_r, aenv_0, List.replicate, Nat.reduceSub, Nat.reduceAdd, eset2, kill, List.set_cons_zero, List.set_cons_succ, List.set_nil, List.getElem?_cons_zero, List.getElem?_cons_succ, List.getElem?_nil, List.mem_cons, List.not_mem_nil, or_false, or_true, true_and, and_true, true_or, false_or, false_and, and_false, not_false_eq_true, not_true_eq_false, forall_const, false_imp_iff, imp_false, true_imp_iff, if_true, if_false, implies_true, reduceIte, reduceCtorEq,
    ↓fI_h0, ↓fI_h1, ↓fR_h2, ↓fR_h3, ↓fI_h4, ↓fR_h5, ↓fI_h6, ↓fR_h7, ↓fR_h8, ↓fI_h9, ↓fI_h10, ↓fI_p0, ↓fI_p1, ↓fR_p2, ↓fO_p3, hfs_s0, hfs_s1, hfs_s4, hfs_s6, hfs_s8, hfs_s9, hfs_s10, hfs_len, pfs_len, pfs_s3, Nat.reduceLT, Nat.reduceEqDiff, nI_add, nI_mulN, lit32, nI_clamp, vp_in_nI, nI_ltI, nI_eq, nI_leI, Nat.reduceMul, Nat.zero_add, Nat.add_zero, L_House_marginOf_1, ↓qb, ↓qa, ↓q1, ↓q2, ↓q4, up_up, hcl2, g1, g2, bI_ne]
    have nx : ∀ m', m' = (if tops v' rest [] then m + minu (hdE rest) else m) → P [some (.ref b), some (.ref a), some (.int c), some (.int w), some (.int s), some (.int m'), some (.int (nI (fm + clz rest))), some (.int (nI (i + 1)))] (up h (b + 4) (iA X 6 v'), g) := fun m' hm' => by
      have hE2 : (cE 0 L).drop (i + 1) = cE (fm + clz rest) (rst rest) := by
        rw [← List.drop_drop, hE, hc]; rfl
      refine hP (cE (fm + clz rest) (rst rest)).length _ _ (by rw [hn, hc]; rfl) ⟨rst rest, fm + clz rest, i + 1, m', rfl, okQ_rst hok, ?_, by omega, hE2, by omega, ?_, rfl, rfl⟩
      · rw [← List.drop_drop, hD, cd_rst]
      · rw [hm', ← hf]; exact (evalR_tops (st := []) hok).symm
    cases hb9 : tops v' rest [] with
    | true => rw [hb9] at nx; exact ⟨fun q => Bool.noConfusion q, fun _ => nx _ rfl⟩
    | false => rw [hb9] at nx; exact ⟨fun _ => nx _ rfl, fun q => absurd rfl q⟩
  · have hr : rest = [] := by
      cases hr : rest with
      | nil => rfl
      | cons s0 t0 =>
        have hc := cE_rst (k := fm) hok (Or.inr (by rw [hr]; exact List.cons_ne_nil _ _))
        rw [hc] at hlE
        simp at hlE
        omega
    subst hr
    have hf : m = fin := hf
    rw [hf]
    exact hK v'
theorem t_costC (hd : 1 ≤ d) {b t : Nat} {l ea n x y z late : Int32} (hb : h b = some (ob 3 (hfs b t l ea n x y z))) (hK : K (some (.int (if 0 < late then late * l else -late * ea))) h) : CALL X M_House_costOf d [.ref b, .int late] h K := by
  obtain ⟨d, rfl⟩ : ∃ e, d = e + 1 := ⟨d - 1, by omega⟩
  refine call_of (by decide +kernel) (by decide) (F_House_costOf X d) (Nat.le_of_ble_eq_true rfl) ?_
  intro g
  simp (disch := omega) only [↓sSeq, ↓sI_f, ↓sL_f, ↓sR_f, ↓sInc_f, fE_c, eset_0, eset_1i, eset_1r, eset_1n, eset_1l, eset_ss, ↓sIf, ↓sBrk, ↓sCnt, ↓sRetI, ↓sRetL, ↓sRetR, ↓sRet, ↓sRetZ, ↓sSkip, ↓sSw, ↓sK, ↓sPop, ↓sFor_t, ↓sast, ↓sastC, ↓szst, ↓spst, ↓sput, ↓sputZ, ↓sputR, ↓sputN, ↓sputC, ↓sCopy,
    ↓xi, ↓xl, ↓xr, ↓xc, ↓xcl, ↓xadd, ↓xsub, ↓xmul, ↓xdiv, ↓xrem, ↓xand, ↓xor, ↓xxor, ↓xshl, ↓xshr, ↓xneg, ↓xaddl, ↓xsubl, ↓xmull, ↓xdivl, ↓xreml, ↓xnegl, ↓xi2l, ↓xi2c, ↓xofC, ↓xite, ↓xitel, ↓xiter, ↓xmax, ↓xmin, ↓xabs, ↓xabsl,
    ↓xg, ↓xgR, ↓xgO, ↓oR, ↓xald, ↓xzld, ↓xpld, ↓xlen, ↓xstr, ↓xinst, ↓cNot, ↓cAnd, ↓cOr, ↓cEq, ↓cLt, ↓cGt, ↓cEq0, ↓cLt0, ↓cGt0, ↓cEqL, ↓cLtL, ↓cGtL, ↓cEqO,
    ↓kI, ↓kL, ↓kR, ↓kV, ↓kS, ↓kD_e, ↓kP, ↓kT, ↓CALL_t, ↓vI, ↓vL, ↓vR, ↓aN, ↓aC, aenv_i, aenv_l, aenv_r, aenv_0, List.replicate, Nat.reduceSub, Nat.reduceAdd, eset2, kill, List.set_cons_zero, List.set_cons_succ, List.set_nil, List.getElem?_cons_zero, List.getElem?_cons_succ, List.getElem?_nil, List.mem_cons, List.not_mem_nil, or_false, or_true, true_and, and_true, true_or, false_or, false_and, and_false, not_false_eq_true, not_true_eq_false, forall_const, false_imp_iff, imp_false, true_imp_iff, if_true, if_false, implies_true, reduceIte, reduceCtorEq,
    ↓fI_h0, ↓fI_h1, ↓fR_h2, ↓fR_h3, ↓fI_h4, ↓fR_h5, ↓fI_h6, ↓fR_h7, ↓fR_h8, ↓fI_h9, ↓fI_h10, ↓fI_p0, ↓fI_p1, ↓fR_p2, ↓fO_p3, hfs_s0, hfs_s1, hfs_s4, hfs_s6, hfs_s8, hfs_s9, hfs_s10, hfs_len, pfs_len, pfs_s3, Nat.reduceLT, Nat.reduceEqDiff, nI_add, nI_mulN, lit32, nI_clamp, vp_in_nI, nI_ltI, nI_eq, nI_leI, Nat.reduceMul, Nat.zero_add, Nat.add_zero, B_House_costOf, M_House_costOf, ↓onO_h hb]
  refine ⟨fun c => ?_, fun c => ?_⟩
  · rw [if_pos (show (0 : Int32) < late from c)] at hK; exact hK
  · rw [if_neg (show ¬ (0 : Int32) < late from c)] at hK; exact hK
theorem t_rash0 (hd : 1 ≤ d) {a : Nat} (hK : K (some (.int 0)) h) : CALL X M_Person_rashness d [.ref a] h K := by
  obtain ⟨d, rfl⟩ : ∃ e, d = e + 1 := ⟨d - 1, by omega⟩
  refine call_of (by decide +kernel) (by decide) (F_Person_rashness X d) (Nat.le_of_ble_eq_true rfl) ?_
  intro g
  simp (disch := omega) only [↓sSeq, ↓sI_f, ↓sL_f, ↓sR_f, ↓sInc_f, fE_c, eset_0, eset_1i, eset_1r, eset_1n, eset_1l, eset_ss, ↓sIf, ↓sBrk, ↓sCnt, ↓sRetI, ↓sRetL, ↓sRetR, ↓sRet, ↓sRetZ, ↓sSkip, ↓sSw, ↓sK, ↓sPop, ↓sFor_t, ↓sast, ↓sastC, ↓szst, ↓spst, ↓sput, ↓sputZ, ↓sputR, ↓sputN, ↓sputC, ↓sCopy,
    ↓xi, ↓xl, ↓xr, ↓xc, ↓xcl, ↓xadd, ↓xsub, ↓xmul, ↓xdiv, ↓xrem, ↓xand, ↓xor, ↓xxor, ↓xshl, ↓xshr, ↓xneg, ↓xaddl, ↓xsubl, ↓xmull, ↓xdivl, ↓xreml, ↓xnegl, ↓xi2l, ↓xi2c, ↓xofC, ↓xite, ↓xitel, ↓xiter, ↓xmax, ↓xmin, ↓xabs, ↓xabsl,
    ↓xg, ↓xgR, ↓xgO, ↓oR, ↓xald, ↓xzld, ↓xpld, ↓xlen, ↓xstr, ↓xinst, ↓cNot, ↓cAnd, ↓cOr, ↓cEq, ↓cLt, ↓cGt, ↓cEq0, ↓cLt0, ↓cGt0, ↓cEqL, ↓cLtL, ↓cGtL, ↓cEqO,
    ↓kI, ↓kL, ↓kR, ↓kV, ↓kS, ↓kD_e, ↓kP, ↓kT, ↓CALL_t, ↓vI, ↓vL, ↓vR, ↓aN, ↓aC, aenv_i, aenv_l, aenv_r, aenv_0, List.replicate, Nat.reduceSub, Nat.reduceAdd, eset2, kill, List.set_cons_zero, List.set_cons_succ, List.set_nil, List.getElem?_cons_zero, List.getElem?_cons_succ, List.getElem?_nil, List.mem_cons, List.not_mem_nil, or_false, or_true, true_and, and_true, true_or, false_or, false_and, and_false, not_false_eq_true, not_true_eq_false, forall_const, false_imp_iff, imp_false, true_imp_iff, if_true, if_false, implies_true, reduceIte, reduceCtorEq,
    ↓fI_h0, ↓fI_h1, ↓fR_h2, ↓fR_h3, ↓fI_h4, ↓fR_h5, ↓fI_h6, ↓fR_h7, ↓fR_h8, ↓fI_h9, ↓fI_h10, ↓fI_p0, ↓fI_p1, ↓fR_p2, ↓fO_p3, hfs_s0, hfs_s1, hfs_s4, hfs_s6, hfs_s8, hfs_s9, hfs_s10, hfs_len, pfs_len, pfs_s3, Nat.reduceLT, Nat.reduceEqDiff, nI_add, nI_mulN, lit32, nI_clamp, vp_in_nI, nI_ltI, nI_eq, nI_leI, Nat.reduceMul, Nat.zero_add, Nat.add_zero, B_Person_rashness, M_Person_rashness]
  exact hK
theorem t_rash1 (hd : 1 ≤ d) {a : Nat} {q : PD} {o : Option Nat} (hq : q.1 = 3 ∨ q.1 = 6) (ha : h a = some (ob (4 + q.1) (pfs a q o))) (hK : K (some (.int q.2.2)) h) : CALL X M_Rash_rashness d [.ref a] h K := by
  have e : (4 + q.1 = 7 ∨ 4 + q.1 = 10) = True := eq_true (by omega)
  obtain ⟨d, rfl⟩ : ∃ e, d = e + 1 := ⟨d - 1, by omega⟩
  refine call_of (by decide +kernel) (by decide) (F_Rash_rashness X d) (Nat.le_of_ble_eq_true rfl) ?_
  intro g
  simp (disch := omega) only [↓sSeq, ↓sI_f, ↓sL_f, ↓sR_f, ↓sInc_f, fE_c, eset_0, eset_1i, eset_1r, eset_1n, eset_1l, eset_ss, ↓sIf, ↓sBrk, ↓sCnt, ↓sRetI, ↓sRetL, ↓sRetR, ↓sRet, ↓sRetZ, ↓sSkip, ↓sSw, ↓sK, ↓sPop, ↓sFor_t, ↓sast, ↓sastC, ↓szst, ↓spst, ↓sput, ↓sputZ, ↓sputR, ↓sputN, ↓sputC, ↓sCopy,
    ↓xi, ↓xl, ↓xr, ↓xc, ↓xcl, ↓xadd, ↓xsub, ↓xmul, ↓xdiv, ↓xrem, ↓xand, ↓xor, ↓xxor, ↓xshl, ↓xshr, ↓xneg, ↓xaddl, ↓xsubl, ↓xmull, ↓xdivl, ↓xreml, ↓xnegl, ↓xi2l, ↓xi2c, ↓xofC, ↓xite, ↓xitel, ↓xiter, ↓xmax, ↓xmin, ↓xabs, ↓xabsl,
    ↓xg, ↓xgR, ↓xgO, ↓oR, ↓xald, ↓xzld, ↓xpld, ↓xlen, ↓xstr, ↓xinst, ↓cNot, ↓cAnd, ↓cOr, ↓cEq, ↓cLt, ↓cGt, ↓cEq0, ↓cLt0, ↓cGt0, ↓cEqL, ↓cLtL, ↓cGtL, ↓cEqO,
    ↓kI, ↓kL, ↓kR, ↓kV, ↓kS, ↓kD_e, ↓kP, ↓kT, ↓CALL_t, ↓vI, ↓vL, ↓vR, ↓aN, ↓aC, aenv_i, aenv_l, aenv_r, aenv_0, List.replicate, Nat.reduceSub, Nat.reduceAdd, eset2, kill, List.set_cons_zero, List.set_cons_succ, List.set_nil, List.getElem?_cons_zero, List.getElem?_cons_succ, List.getElem?_nil, List.mem_cons, List.not_mem_nil, or_false, or_true, true_and, and_true, true_or, false_or, false_and, and_false, not_false_eq_true, not_true_eq_false, forall_const, false_imp_iff, imp_false, true_imp_iff, if_true, if_false, implies_true, reduceIte, reduceCtorEq,
    ↓fI_h0, ↓fI_h1, ↓fR_h2, ↓fR_h3, ↓fI_h4, ↓fR_h5, ↓fI_h6, ↓fR_h7, ↓fR_h8, ↓fI_h9, ↓fI_h10, ↓fI_p0, ↓fI_p1, ↓fR_p2, ↓fO_p3, hfs_s0, hfs_s1, hfs_s4, hfs_s6, hfs_s8, hfs_s9, hfs_s10, hfs_len, pfs_len, pfs_s3, Nat.reduceLT, Nat.reduceEqDiff, nI_add, nI_mulN, lit32, nI_clamp, vp_in_nI, nI_ltI, nI_eq, nI_leI, Nat.reduceMul, Nat.zero_add, Nat.add_zero, B_Rash_rashness, M_Rash_rashness, ↓onO_h ha, e]
  exact hK
theorem d_rash (hd : 1 ≤ d) {a : Nat} {q : PD} {o : Option Nat} {t : Tag K} (hq : q.1 < 7) (ha : h a = some (ob (4 + q.1) (pfs a q o))) (hK : K (some (.int (if q.1 = 3 ∨ q.1 = 6 then q.2.2 else 0))) h) : dsp X TG_Person_rashness d a [] h K t := by
  have hk : q.1 = 0 ∨ q.1 = 1 ∨ q.1 = 2 ∨ q.1 = 3 ∨ q.1 = 4 ∨ q.1 = 5 ∨ q.1 = 6 := by omega
  by_cases c : q.1 = 3 ∨ q.1 = 6
  · rw [if_pos c] at hK
    refine dsp_of (M := M_Rash_rashness) ha ?_ (t_rash1 hd c ha hK)
    rcases c with e | e <;> rw [e] <;> rfl
  · rw [if_neg c] at hK
    refine dsp_of (M := M_Person_rashness) ha ?_ (t_rash0 hd hK)
    rcases hk with e | e | e | e | e | e | e
    · rw [e]; rfl
    · rw [e]; rfl
    · rw [e]; rfl
    · exact absurd (Or.inl e) c
    · rw [e]; rfl
    · rw [e]; rfl
    · exact absurd (Or.inr e) c
end HEV2
