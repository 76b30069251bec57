section KNC
variable {X : WX} {d b : Nat} {h : HM} {K : Option Value → HM → Prop} {P : Nat → Option PD} {Q : Nat → Option HDs} {dh : HM} {st : Nat → SR} {nt : Nat → Nat → Int32} {t : Nat × (Nat → Int32)} {im : Int32} {S : Nat → Int32} {w : (Nat → Option Nat) × Nat}
theorem bitAt {v : Int32} {q : Nat} (hq : q < 31) : jshr v (nI q) &&& nI 1 = nI (bt v q).toNat := by
  apply b_ext
  intro i hi
  unfold jshr
  rw [b_and, bt_1 i hi, b_sshr q (by omega) _ hi, bt_nI hi]
  by_cases e : i = 0
  · subst e
    rw [if_pos (by omega), Nat.add_zero]
    cases bt v q <;> simp
  · have e2 : (bt v q).toNat.testBit i = false := Nat.testBit_lt_two_pow (Nat.lt_of_le_of_lt (Bool.toNat_le _) (Nat.one_lt_two_pow e))
    rw [e2]; simp [e]
theorem bit0 {v : Int32} {q : Nat} (hq : q < 31) : (jshr v (nI q) &&& nI 1 = nI 0) = (bt v q = false) := by
  rw [bitAt hq]
  cases bt v q <;> simp <;> decide
theorem bit1 {v : Int32} {q : Nat} (hq : q < 31) : (jshr v (nI q) &&& nI 1 = nI 1) = (bt v q = true) := by
  rw [bitAt hq]
  cases bt v q <;> simp <;> decide
theorem bt_sh {p i : Nat} (hp : p < 31) (hi : i < 32) : bt (jshl (nI 1) (nI p)) i = decide (i = p) := by
  unfold jshl
  rw [b_shl p (by omega) _ hi]
  by_cases e : p ≤ i
  · rw [bt_1 _ (by omega)]
    by_cases e2 : i = p
    · subst e2; simp
    · have : ¬ i - p = 0 := by omega
      simp [e2, this]
  · have : ¬ i = p := by omega
    simp [e, this]
theorem bt_allR {x : Nat} : ∀ {n i : Nat}, n ≤ 6 → i < 32 → bt (allR S x n) i = (decide (i < n) && decide (S (30 + i) = S (30 + x)))
  | 0, i, _, hi => by show bt (nI 0) i = _; rw [bt_0 i hi]; simp
  | n + 1, i, hn, hi => by
    have ih := bt_allR (x := x) (n := n) (i := i) (by omega) hi
    show bt (allR S x n ||| _) i = _
    rw [b_or, ih]
    by_cases c : S (30 + n) = S (30 + x)
    · rw [if_pos c, bt_sh (by omega) hi]
      by_cases e : i = n
      · subst e; simp [c]
      · by_cases e2 : i < n
        · have : i < n + 1 := by omega
          simp [e, e2, this]
        · have : ¬ i < n + 1 := by omega
          simp [e, e2, this]
    · rw [if_neg c, bt_0 i hi]
      by_cases e : i = n
      · subst e; simp [c]
      · by_cases e2 : i < n
        · have : i < n + 1 := by omega
          simp [e2, this]
        · have : ¬ i < n + 1 := by omega
          simp [e2, this]
/-- who has it is of the circle -/
def Sub (S : Nat → Int32) (x n : Nat) (has : Int32) : Prop := ∀ i, i < 32 → bt has i = true → i < n ∧ S (30 + i) = S (30 + x)
theorem sub_or {x n : Nat} {a c : Int32} (h1 : Sub S x n a) (h2 : Sub S x n c) : Sub S x n (a ||| c) := fun i hi h => by
  rw [b_or, Bool.or_eq_true] at h
  exact h.elim (h1 i hi) (h2 i hi)
theorem sub_0 {x n : Nat} : Sub S x n (nI 0) := fun i hi h => by rw [bt_0 i hi] at h; exact Bool.noConfusion h
theorem sub_1 {x n p : Nat} (hn : n ≤ 6) (hp : p < n) (hS : S (30 + p) = S (30 + x)) : Sub S x n (jshl (nI 1) (nI p)) := fun i hi h => by
  rw [bt_sh (by omega) hi] at h
  have : i = p := by simpa using h
  subst this
  exact ⟨hp, hS⟩
theorem sub_has {x n : Nat} (hn : n ≤ 6) : ∀ m, m ≤ n → Sub S x n (hasR S x m)
  | 0, _ => sub_0
  | m + 1, hm => by
    refine sub_or (sub_has hn m (by omega)) ?_
    by_cases c : S (30 + m) = S (30 + x) ∧ S (5 + m) = S (5 + x)
    · rw [if_pos c]; exact sub_1 hn (by omega) c.1
    · rw [if_neg c]; exact sub_0
theorem nxR_is {n p : Nat} {set : Int32} (hn : 0 < n) : ∀ (m k : Nat), nxR S n p set k m = -nI 1 ∨ ∃ q, q < n ∧ S (30 + q) = S (30 + p) ∧ nxR S n p set k m = nI q
  | 0, k => Or.inl rfl
  | m + 1, k => by
    by_cases c : S (30 + (p + k) % n) = S (30 + p) ∧ jshr set (nI ((p + k) % n)) &&& nI 1 = nI 0
    · rw [nxR_t c]; exact Or.inr ⟨_, Nat.mod_lt _ hn, c.1, rfl⟩
    · rw [nxR_f c]; exact nxR_is hn m (k + 1)
theorem sub_then {x n : Nat} {has : Int32} (hn : n ≤ 6) (h : Sub S x n has) : ∀ m, m ≤ n → Sub S x n (thenR S n has m)
  | 0, _ => h
  | m + 1, hm => by
    refine sub_or (sub_then hn h m (by omega)) ?_
    by_cases c : qR S n has m = -nI 1
    · rw [if_pos c]; exact sub_0
    · rw [if_neg c]
      unfold qR at c ⊢
      by_cases c2 : jshr has (nI m) &&& nI 1 = nI 1
      · rw [if_pos c2] at c ⊢
        rw [bit1 (by omega)] at c2
        have hm2 := h m (by omega) c2
        rcases nxR_is (S := S) (n := n) (p := m) (set := has) (by omega) (n - 1) 1 with e | ⟨q, q1, q2, e⟩
        · exact absurd e c
        · rw [e]; exact sub_1 hn q1 (q2.trans hm2.2)
      · rw [if_neg c2] at c
        exact absurd rfl c
/-- the class asks the same of the next one -/
theorem next_same {x n p q : Nat} {has : Int32} (hn : n ≤ 6) (hq : q < n) (hp : S (30 + p) = S (30 + x)) : (jshr (allR S x n &&& (has ^^^ -nI 1)) (nI q) &&& nI 1 = nI 0) = (¬ (S (30 + q) = S (30 + p) ∧ jshr has (nI q) &&& nI 1 = nI 0)) := by
  rw [bit0 (by omega), bit0 (by omega), b_and, b_xor, bt_allR hn (by omega), show bt (-nI 1) q = true from b_m1 q (by omega), hp]
  by_cases c : S (30 + q) = S (30 + x)
  · cases bt has q <;> simp [c, hq]
  · simp [c]
theorem u_after (hd : 1 ≤ d) {n x : Nat} {has : Int32} (hn : n ≤ 6) (hS : S 11 = nI n) (hsub : Sub S x n has) {nt' : Nat → Nat → Int32} (hK : K (some (.int (thenR S n has n))) (CH X dh (va_up st 0 (S, w)) nt' t im)) : CALL X M_FC_knowingAfter d [.ref (bA X), .int (allR S x n), .int has] (CH X dh (va_up st 0 (S, w)) nt' t im) K := by
  obtain ⟨d, rfl⟩ : ∃ e, d = e + 1 := ⟨d - 1, by omega⟩
  refine call_of (by decide +kernel) (by decide) (F_FC_knowingAfter X d) (Nat.le_of_ble_eq_true rfl) ?_
  intro g
  simp (disch := first | omega | rfl | (simp (disch := omega) only [vuS, vuN])) only [↓sSeq, ↓sI_f, ↓sL_f, ↓sR_f, ↓sInc_f, fE_c, eset_0, eset_1i, eset_1r, eset_1n, eset_1l, eset_ss, ↓sIf, ↓sBrk, ↓sCnt, ↓sRetI, ↓sRetL, ↓sRetR, ↓sRet, ↓sRetZ, ↓sSkip, ↓sSw, ↓sK, ↓sPop, ↓sFor_t, ↓sast, ↓sastC, ↓szst, ↓spst, ↓sput, ↓sputZ, ↓sputR, ↓sputN, ↓sputC, ↓sCopy,
    ↓xi, ↓xl, ↓xr, ↓xc, ↓xcl, ↓xadd, ↓xsub, ↓xmul, ↓xdiv, ↓xrem, ↓xand, ↓xor, ↓xxor, ↓xshl, ↓xshr, ↓xneg, ↓xaddl, ↓xsubl, ↓xmull, ↓xdivl, ↓xreml, ↓xnegl, ↓xi2l, ↓xi2c, ↓xofC, ↓xite, ↓xitel, ↓xiter, ↓xmax, ↓xmin, ↓xabs, ↓xabsl,
    ↓xg, ↓xgR, ↓xgO, ↓oR, ↓xald, ↓xzld, ↓xpld, ↓xlen, ↓xstr, ↓xinst, ↓cNot, ↓cAnd, ↓cOr, ↓cEq, ↓cLt, ↓cGt, ↓cEq0, ↓cLt0, ↓cGt0, ↓cEqL, ↓cLtL, ↓cGtL, ↓cEqO,
    ↓kI, ↓kL, ↓kR, ↓kV, ↓kS, ↓kD_e, ↓kP, ↓kT, ↓CALL_t, ↓vI, ↓vL, ↓vR, ↓aN, ↓aC, aenv_i, aenv_l, aenv_r, aenv_0, List.replicate, Nat.reduceSub, Nat.reduceAdd, eset2, kill, List.set_cons_zero, List.set_cons_succ, List.set_nil, List.getElem?_cons_zero, List.getElem?_cons_succ, List.getElem?_nil, List.mem_cons, List.not_mem_nil, or_false, or_true, true_and, and_true, true_or, false_or, false_and, and_false, not_false_eq_true, not_true_eq_false, forall_const, false_imp_iff, imp_false, true_imp_iff, if_true, if_false, implies_true, reduceIte, reduceCtorEq,
    ↓onO_CF, ↓onO_CT, ↓onI_CT1, ↓onO_CN, ↓onI_CN1, ↓onI_CN2, ↓onI_CN3, ↓onI_CN4, ↓onI_CN5, ↓onI_CN6, ↓onI_CN7, ↓onI_CN8, ↓onO_CS, ↓onI_CS1, ↓onP_CS2, ↓onI_CS3, ↓onI_CS4, ↓onI_CS5, ↓fR_f0, ↓fR_f1, ↓fR_f2, ↓fR_f3, ↓fR_f4, ↓fR_f5, ↓fI_f6, ↓fR_f7, ↓fR_t0, ↓fI_t1, ↓fR_s0, ↓fR_s1, ↓fR_s2, ↓fR_s3, ↓fR_s4, ↓fR_s5, ↓fO_s5, ↓fI_s6, ↓fI_s7, ↓fI_s8, ↓fI_s9, ↓fR_n0, ↓fI_n1, ↓fI_n2, ↓fR_n3, ↓fR_n4, ↓fI_n5, ↓fR_n6, ↓fR_n7, ↓fR_n8, ↓fI_n9, ↓fR_n10, ↓fR_n11, ↓fI_n12,
    CHu_F, CHu_T, CHu_T1, CHu_S5, CHu_S6, CHu_S7, CHu_S8, CHu_S9, CHu_a1, CHu_a2, CHu_a3, CHu_a4, CHu_a5, CHu_N1, CHu_N2, CHu_N5, CHu_N9, CHu_N12, CHu_b1, CHu_b2, CHu_b3, CHu_b4, CHu_b5, CHu_b6, CHu_b7, CHu_b8, ffs_len, tfs_len, sfs_len, nfs_len, sl_i, vuS, vuN, vuV, fS_s, Nat.reduceLT, Nat.reduceEqDiff, Nat.le_refl, nI_add, nI_mulN, lit32, nI_clamp, vp_in_nI, nI_ltI, nI_eq, nI_leI, Nat.reduceMul, Nat.zero_add, Nat.add_zero, B_FC_knowingAfter, M_FC_knowingAfter]
  refine for_rule (fun m env σ => ∃ (p : Nat) (x5 x6 : Option Value), p + m = n ∧ env = [some (.ref (bA X)), some (.int (allR S x n)), some (.int has), some (.int (thenR S n has p)), some (.int (nI p)), x5, x6] ∧ σ = (CH X dh (va_up st 0 (S, w)) nt' t im, g)) n ⟨0, none, none, by omega, rfl, rfl⟩ ?_
  rintro m env σ P' ⟨p, x5, x6, hp, rfl, rfl⟩ hP
  simp (disch := first | omega | rfl | (simp (disch := omega) only [vuS, vuN])) only [↓sSeq, ↓sI_f, ↓sL_f, ↓sR_f, ↓sInc_f, fE_c, eset_0, eset_1i, eset_1r, eset_1n, eset_1l, eset_ss, ↓sIf, ↓sBrk, ↓sCnt, ↓sRetI, ↓sRetL, ↓sRetR, ↓sRet, ↓sRetZ, ↓sSkip, ↓sSw, ↓sK, ↓sPop, ↓sFor_t, ↓sast, ↓sastC, ↓szst, ↓spst, ↓sput, ↓sputZ, ↓sputR, ↓sputN, ↓sputC, ↓sCopy,
    ↓xi, ↓xl, ↓xr, ↓xc, ↓xcl, ↓xadd, ↓xsub, ↓xmul, ↓xdiv, ↓xrem, ↓xand, ↓xor, ↓xxor, ↓xshl, ↓xshr, ↓xneg, ↓xaddl, ↓xsubl, ↓xmull, ↓xdivl, ↓xreml, ↓xnegl, ↓xi2l, ↓xi2c, ↓xofC, ↓xite, ↓xitel, ↓xiter, ↓xmax, ↓xmin, ↓xabs, ↓xabsl,
    ↓xg, ↓xgR, ↓xgO, ↓oR, ↓xald, ↓xzld, ↓xpld, ↓xlen, ↓xstr, ↓xinst, ↓cNot, ↓cAnd, ↓cOr, ↓cEq, ↓cLt, ↓cGt, ↓cEq0, ↓cLt0, ↓cGt0, ↓cEqL, ↓cLtL, ↓cGtL, ↓cEqO,
    ↓kI, ↓kL, ↓kR, ↓kV, ↓kS, ↓kD_e, ↓kP, ↓kT, ↓CALL_t, ↓vI, ↓vL, ↓vR, ↓aN, ↓aC, aenv_i, aenv_l, aenv_r, aenv_0, List.replicate, Nat.reduceSub, Nat.reduceAdd, eset2, kill, List.set_cons_zero, List.set_cons_succ, List.set_nil, List.getElem?_cons_zero, List.getElem?_cons_succ, List.getElem?_nil, List.mem_cons, List.not_mem_nil, or_false, or_true, true_and, and_true, true_or, false_or, false_and, and_false, not_false_eq_true, not_true_eq_false, forall_const, false_imp_iff, imp_false, true_imp_iff, if_true, if_false, implies_true, reduceIte, reduceCtorEq,
    ↓onO_CF, ↓onO_CT, ↓onI_CT1, ↓onO_CN, ↓onI_CN1, ↓onI_CN2, ↓onI_CN3, ↓onI_CN4, ↓onI_CN5, ↓onI_CN6, ↓onI_CN7, ↓onI_CN8, ↓onO_CS, ↓onI_CS1, ↓onP_CS2, ↓onI_CS3, ↓onI_CS4, ↓onI_CS5, ↓fR_f0, ↓fR_f1, ↓fR_f2, ↓fR_f3, ↓fR_f4, ↓fR_f5, ↓fI_f6, ↓fR_f7, ↓fR_t0, ↓fI_t1, ↓fR_s0, ↓fR_s1, ↓fR_s2, ↓fR_s3, ↓fR_s4, ↓fR_s5, ↓fO_s5, ↓fI_s6, ↓fI_s7, ↓fI_s8, ↓fI_s9, ↓fR_n0, ↓fI_n1, ↓fI_n2, ↓fR_n3, ↓fR_n4, ↓fI_n5, ↓fR_n6, ↓fR_n7, ↓fR_n8, ↓fI_n9, ↓fR_n10, ↓fR_n11, ↓fI_n12,
    CHu_F, CHu_T, CHu_T1, CHu_S5, CHu_S6, CHu_S7, CHu_S8, CHu_S9, CHu_a1, CHu_a2, CHu_a3, CHu_a4, CHu_a5, CHu_N1, CHu_N2, CHu_N5, CHu_N9, CHu_N12, CHu_b1, CHu_b2, CHu_b3, CHu_b4, CHu_b5, CHu_b6, CHu_b7, CHu_b8, ffs_len, tfs_len, sfs_len, nfs_len, sl_i, vuS, vuN, vuV, fS_s, Nat.reduceLT, Nat.reduceEqDiff, Nat.le_refl, nI_add, nI_mulN, lit32, nI_clamp, vp_in_nI, nI_ltI, nI_eq, nI_leI, Nat.reduceMul, Nat.zero_add, Nat.add_zero, hS]
  refine ⟨fun c => ?_, fun c => ?_⟩
  · have nx : ∀ (x5 x6 : Option Value) (v : Int32), v = thenR S n has (p + 1) → P' [some (.ref (bA X)), some (.int (allR S x n)), some (.int has), some (.int v), some (.int (nI (p + 1))), x5, x6] (CH X dh (va_up st 0 (S, w)) nt' t im, g) := fun x5 x6 v e => hP (m - 1) _ _ (by omega) ⟨p + 1, x5, x6, by omega, by rw [e], rfl⟩
    simp (disch := first | omega | rfl | (simp (disch := omega) only [vuS, vuN])) only [↓sSeq, ↓sI_f, ↓sL_f, ↓sR_f, ↓sInc_f, fE_c, eset_0, eset_1i, eset_1r, eset_1n, eset_1l, eset_ss, ↓sIf, ↓sBrk, ↓sCnt, ↓sRetI, ↓sRetL, ↓sRetR, ↓sRet, ↓sRetZ, ↓sSkip, ↓sSw, ↓sK, ↓sPop, ↓sFor_t, ↓sast, ↓sastC, ↓szst, ↓spst, ↓sput, ↓sputZ, ↓sputR, ↓sputN, ↓sputC, ↓sCopy,
    ↓xi, ↓xl, ↓xr, ↓xc, ↓xcl, ↓xadd, ↓xsub, ↓xmul, ↓xdiv, ↓xrem, ↓xand, ↓xor, ↓xxor, ↓xshl, ↓xshr, ↓xneg, ↓xaddl, ↓xsubl, ↓xmull, ↓xdivl, ↓xreml, ↓xnegl, ↓xi2l, ↓xi2c, ↓xofC, ↓xite, ↓xitel, ↓xiter, ↓xmax, ↓xmin, ↓xabs, ↓xabsl,
    ↓xg, ↓xgR, ↓xgO, ↓oR, ↓xald, ↓xzld, ↓xpld, ↓xlen, ↓xstr, ↓xinst, ↓cNot, ↓cAnd, ↓cOr, ↓cEq, ↓cLt, ↓cGt, ↓cEq0, ↓cLt0, ↓cGt0, ↓cEqL, ↓cLtL, ↓cGtL, ↓cEqO,
    ↓kI, ↓kL, ↓kR, ↓kV, ↓kS, ↓kD_e, ↓kP, ↓kT, ↓CALL_t, ↓vI, ↓vL, ↓vR, ↓aN, ↓aC, aenv_i, aenv_l, aenv_r, aenv_0, List.replicate, Nat.reduceSub, Nat.reduceAdd, eset2, kill, List.set_cons_zero, List.set_cons_succ, List.set_nil, List.getElem?_cons_zero, List.getElem?_cons_succ, List.getElem?_nil, List.mem_cons, List.not_mem_nil, or_false, or_true, true_and, and_true, true_or, false_or, false_and, and_false, not_false_eq_true, not_true_eq_false, forall_const, false_imp_iff, imp_false, true_imp_iff, if_true, if_false, implies_true, reduceIte, reduceCtorEq,
    ↓onO_CF, ↓onO_CT, ↓onI_CT1, ↓onO_CN, ↓onI_CN1, ↓onI_CN2, ↓onI_CN3, ↓onI_CN4, ↓onI_CN5, ↓onI_CN6, ↓onI_CN7, ↓onI_CN8, ↓onO_CS, ↓onI_CS1, ↓onP_CS2, ↓onI_CS3, ↓onI_CS4, ↓onI_CS5, ↓fR_f0, ↓fR_f1, ↓fR_f2, ↓fR_f3, ↓fR_f4, ↓fR_f5, ↓fI_f6, ↓fR_f7, ↓fR_t0, ↓fI_t1, ↓fR_s0, ↓fR_s1, ↓fR_s2, ↓fR_s3, ↓fR_s4, ↓fR_s5, ↓fO_s5, ↓fI_s6, ↓fI_s7, ↓fI_s8, ↓fI_s9, ↓fR_n0, ↓fI_n1, ↓fI_n2, ↓fR_n3, ↓fR_n4, ↓fI_n5, ↓fR_n6, ↓fR_n7, ↓fR_n8, ↓fI_n9, ↓fR_n10, ↓fR_n11, ↓fI_n12,
    CHu_F, CHu_T, CHu_T1, CHu_S5, CHu_S6, CHu_S7, CHu_S8, CHu_S9, CHu_a1, CHu_a2, CHu_a3, CHu_a4, CHu_a5, CHu_N1, CHu_N2, CHu_N5, CHu_N9, CHu_N12, CHu_b1, CHu_b2, CHu_b3, CHu_b4, CHu_b5, CHu_b6, CHu_b7, CHu_b8, ffs_len, tfs_len, sfs_len, nfs_len, sl_i, vuS, vuN, vuV, fS_s, Nat.reduceLT, Nat.reduceEqDiff, Nat.le_refl, nI_add, nI_mulN, lit32, nI_clamp, vp_in_nI, nI_ltI, nI_eq, nI_leI, Nat.reduceMul, Nat.zero_add, Nat.add_zero, L_FC_knowingAfter_2]
    have noq : ∀ z : Int32, thenR S n has p = thenR S n has p ||| nI 0 := fun _ => (Int32.or_zero).symm
    refine ⟨fun z => ?_, fun z => ?_⟩
    · have e : qR S n has p = -nI 1 := if_neg (fun y => by rw [z] at y; exact absurd y (by decide))
      exact nx _ _ _ (by rw [thenR_n e]; exact noq 0)
    · have z1 : bt has p = true := by
        rw [bit0 (by omega)] at z
        simpa using z
      have hpx := hsub p (by omega) z1
      have eq : qR S n has p = nxR S n p has 1 (n - 1) := if_pos (by rw [bit1 (by omega)]; exact z1)
      refine for_rule (fun m env σ => ∃ (k : Nat) (x6 : Option Value), k + 1 + m = n ∧ nxR S n p has (k + 1) m = nxR S n p has 1 (n - 1) ∧ env = [some (.ref (bA X)), some (.int (allR S x n)), some (.int has), some (.int (thenR S n has p)), some (.int (nI p)), some (.int (nI (k + 1))), x6] ∧ σ = (CH X dh (va_up st 0 (S, w)) nt' t im, g)) (n - 1) ⟨0, _, by omega, rfl, rfl, rfl⟩ ?_
      rintro m2 env σ P2 ⟨k, x6', hk, he, rfl, rfl⟩ hP2
      simp (disch := first | omega | rfl | (simp (disch := omega) only [vuS, vuN])) only [↓sSeq, ↓sI_f, ↓sL_f, ↓sR_f, ↓sInc_f, fE_c, eset_0, eset_1i, eset_1r, eset_1n, eset_1l, eset_ss, ↓sIf, ↓sBrk, ↓sCnt, ↓sRetI, ↓sRetL, ↓sRetR, ↓sRet, ↓sRetZ, ↓sSkip, ↓sSw, ↓sK, ↓sPop, ↓sFor_t, ↓sast, ↓sastC, ↓szst, ↓spst, ↓sput, ↓sputZ, ↓sputR, ↓sputN, ↓sputC, ↓sCopy,
    ↓xi, ↓xl, ↓xr, ↓xc, ↓xcl, ↓xadd, ↓xsub, ↓xmul, ↓xdiv, ↓xrem, ↓xand, ↓xor, ↓xxor, ↓xshl, ↓xshr, ↓xneg, ↓xaddl, ↓xsubl, ↓xmull, ↓xdivl, ↓xreml, ↓xnegl, ↓xi2l, ↓xi2c, ↓xofC, ↓xite, ↓xitel, ↓xiter, ↓xmax, ↓xmin, ↓xabs, ↓xabsl,
    ↓xg, ↓xgR, ↓xgO, ↓oR, ↓xald, ↓xzld, ↓xpld, ↓xlen, ↓xstr, ↓xinst, ↓cNot, ↓cAnd, ↓cOr, ↓cEq, ↓cLt, ↓cGt, ↓cEq0, ↓cLt0, ↓cGt0, ↓cEqL, ↓cLtL, ↓cGtL, ↓cEqO,
    ↓kI, ↓kL, ↓kR, ↓kV, ↓kS, ↓kD_e, ↓kP, ↓kT, ↓CALL_t, ↓vI, ↓vL, ↓vR, ↓aN, ↓aC, aenv_i, aenv_l, aenv_r, aenv_0, List.replicate, Nat.reduceSub, Nat.reduceAdd, eset2, kill, List.set_cons_zero, List.set_cons_succ, List.set_nil, List.getElem?_cons_zero, List.getElem?_cons_succ, List.getElem?_nil, List.mem_cons, List.not_mem_nil, or_false, or_true, true_and, and_true, true_or, false_or, false_and, and_false, not_false_eq_true, not_true_eq_false, forall_const, false_imp_iff, imp_false, true_imp_iff, if_true, if_false, implies_true, reduceIte, reduceCtorEq,
    ↓onO_CF, ↓onO_CT, ↓onI_CT1, ↓onO_CN, ↓onI_CN1, ↓onI_CN2, ↓onI_CN3, ↓onI_CN4, ↓onI_CN5, ↓onI_CN6, ↓onI_CN7, ↓onI_CN8, ↓onO_CS, ↓onI_CS1, ↓onP_CS2, ↓onI_CS3, ↓onI_CS4, ↓onI_CS5, ↓fR_f0, ↓fR_f1, ↓fR_f2, ↓fR_f3, ↓fR_f4, ↓fR_f5, ↓fI_f6, ↓fR_f7, ↓fR_t0, ↓fI_t1, ↓fR_s0, ↓fR_s1, ↓fR_s2, ↓fR_s3, ↓fR_s4, ↓fR_s5, ↓fO_s5, ↓fI_s6, ↓fI_s7, ↓fI_s8, ↓fI_s9, ↓fR_n0, ↓fI_n1, ↓fI_n2, ↓fR_n3, ↓fR_n4, ↓fI_n5, ↓fR_n6, ↓fR_n7, ↓fR_n8, ↓fI_n9, ↓fR_n10, ↓fR_n11, ↓fI_n12,
    CHu_F, CHu_T, CHu_T1, CHu_S5, CHu_S6, CHu_S7, CHu_S8, CHu_S9, CHu_a1, CHu_a2, CHu_a3, CHu_a4, CHu_a5, CHu_N1, CHu_N2, CHu_N5, CHu_N9, CHu_N12, CHu_b1, CHu_b2, CHu_b3, CHu_b4, CHu_b5, CHu_b6, CHu_b7, CHu_b8, ffs_len, tfs_len, sfs_len, nfs_len, sl_i, vuS, vuN, vuV, fS_s, Nat.reduceLT, Nat.reduceEqDiff, Nat.le_refl, nI_add, nI_mulN, lit32, nI_clamp, vp_in_nI, nI_ltI, nI_eq, nI_leI, Nat.reduceMul, Nat.zero_add, Nat.add_zero, hS]
      refine ⟨fun c2 => ?_, fun c2 => ?_⟩
      · obtain ⟨m2, rfl⟩ : ∃ m', m2 = m' + 1 := ⟨m2 - 1, by omega⟩
        have hq : (p + (k + 1)) % n < n := Nat.mod_lt _ (by omega)
        have ns := next_same (S := S) (x := x) (p := p) (has := has) hn hq hpx.2
        have n0 : (n = 0) = False := eq_false (by omega)
        simp (disch := first | omega | rfl | (simp (disch := omega) only [vuS, vuN])) only [↓sSeq, ↓sI_f, ↓sL_f, ↓sR_f, ↓sInc_f, fE_c, eset_0, eset_1i, eset_1r, eset_1n, eset_1l, eset_ss, ↓sIf, ↓sBrk, ↓sCnt, ↓sRetI, ↓sRetL, ↓sRetR, ↓sRet, ↓sRetZ, ↓sSkip, ↓sSw, ↓sK, ↓sPop, ↓sFor_t, ↓sast, ↓sastC, ↓szst, ↓spst, ↓sput, ↓sputZ, ↓sputR, ↓sputN, ↓sputC, ↓sCopy,
    ↓xi, ↓xl, ↓xr, ↓xc, ↓xcl, ↓xadd, ↓xsub, ↓xmul, ↓xdiv, ↓xrem, ↓xand, ↓xor, ↓xxor, ↓xshl, ↓xshr, ↓xneg, ↓xaddl, ↓xsubl, ↓xmull, ↓xdivl, ↓xreml, ↓xnegl, ↓xi2l, ↓xi2c, ↓xofC, ↓xite, ↓xitel, ↓xiter, ↓xmax, ↓xmin, ↓xabs, ↓xabsl,
    ↓xg, ↓xgR, ↓xgO, ↓oR, ↓xald, ↓xzld, ↓xpld, ↓xlen, ↓xstr, ↓xinst, ↓cNot, ↓cAnd, ↓cOr, ↓cEq, ↓cLt, ↓cGt, ↓cEq0, ↓cLt0, ↓cGt0, ↓cEqL, ↓cLtL, ↓cGtL, ↓cEqO,
    ↓kI, ↓kL, ↓kR, ↓kV, ↓kS, ↓kD_e, ↓kP, ↓kT, ↓CALL_t, ↓vI, ↓vL, ↓vR, ↓aN, ↓aC, aenv_i, aenv_l, aenv_r, aenv_0, List.replicate, Nat.reduceSub, Nat.reduceAdd, eset2, kill, List.set_cons_zero, List.set_cons_succ, List.set_nil, List.getElem?_cons_zero, List.getElem?_cons_succ, List.getElem?_nil, List.mem_cons, List.not_mem_nil, or_false, or_true, true_and, and_true, true_or, false_or, false_and, and_false, not_false_eq_true, not_true_eq_false, forall_const, false_imp_iff, imp_false, true_imp_iff, if_true, if_false, implies_true, reduceIte, reduceCtorEq,
    ↓onO_CF, ↓onO_CT, ↓onI_CT1, ↓onO_CN, ↓onI_CN1, ↓onI_CN2, ↓onI_CN3, ↓onI_CN4, ↓onI_CN5, ↓onI_CN6, ↓onI_CN7, ↓onI_CN8, ↓onO_CS, ↓onI_CS1, ↓onP_CS2, ↓onI_CS3, ↓onI_CS4, ↓onI_CS5, ↓fR_f0, ↓fR_f1, ↓fR_f2, ↓fR_f3, ↓fR_f4, ↓fR_f5, ↓fI_f6, ↓fR_f7, ↓fR_t0, ↓fI_t1, ↓fR_s0, ↓fR_s1, ↓fR_s2, ↓fR_s3, ↓fR_s4, ↓fR_s5, ↓fO_s5, ↓fI_s6, ↓fI_s7, ↓fI_s8, ↓fI_s9, ↓fR_n0, ↓fI_n1, ↓fI_n2, ↓fR_n3, ↓fR_n4, ↓fI_n5, ↓fR_n6, ↓fR_n7, ↓fR_n8, ↓fI_n9, ↓fR_n10, ↓fR_n11, ↓fI_n12,
    CHu_F, CHu_T, CHu_T1, CHu_S5, CHu_S6, CHu_S7, CHu_S8, CHu_S9, CHu_a1, CHu_a2, CHu_a3, CHu_a4, CHu_a5, CHu_N1, CHu_N2, CHu_N5, CHu_N9, CHu_N12, CHu_b1, CHu_b2, CHu_b3, CHu_b4, CHu_b5, CHu_b6, CHu_b7, CHu_b8, ffs_len, tfs_len, sfs_len, nfs_len, sl_i, vuS, vuN, vuV, fS_s, Nat.reduceLT, Nat.reduceEqDiff, Nat.le_refl, nI_add, nI_mulN, lit32, nI_clamp, vp_in_nI, nI_ltI, nI_eq, nI_leI, Nat.reduceMul, Nat.zero_add, Nat.add_zero, L_FC_knowingAfter_1, hS, nI_jrem, n0, ns]
        refine ⟨fun y => ?_, fun y => ?_⟩
        · rw [nxR_f y] at he
          exact hP2 m2 _ _ (by omega) ⟨k + 1, _, by omega, he, rfl, rfl⟩
        · have y : S (30 + (p + (k + 1)) % n) = S (30 + p) ∧ jshr has (nI ((p + (k + 1)) % n)) &&& nI 1 = nI 0 := Classical.byContradiction y
          rw [nxR_t y] at he
          refine nx _ _ _ ?_
          rw [thenR_q (by rw [eq, ← he]; exact of_eq_false (neg1_ne (by omega))), eq, ← he]
      · have : m2 = 0 := by omega
        subst this
        have he : -nI 1 = nxR S n p has 1 (n - 1) := he
        refine nx _ _ _ ?_
        rw [thenR_n (by rw [eq, ← he])]
        exact noq 0
  · have : p = n := by omega
    subst this
    exact hK
theorem u_knownC (hd : 4 ≤ d) {x : Int32} (hC : Cx X P Q b dh st S w) (hK : ∀ dh' st', Nx X P Q dh st dh' st' → K (some (.int (fKnown S x))) (CS X dh' st' nt t im S w)) : CALL X M_FC_known d [.ref (bA X), .int x] (CS X dh st nt t im S w) K := by
  obtain ⟨n, hn, hS⟩ := hC.2.1.1
  have hnp := nP_of hn hS
  replace hK := hK dh st hC.nx
  unfold CS
  obtain ⟨d, rfl⟩ : ∃ e, d = e + 1 := ⟨d - 1, by omega⟩
  refine call_of (by decide +kernel) (by decide) (F_FC_known X d) (Nat.le_of_ble_eq_true rfl) ?_
  intro g
  simp (disch := first | omega | rfl | (simp (disch := omega) only [vuS, vuN])) only [↓sSeq, ↓sI_f, ↓sL_f, ↓sR_f, ↓sInc_f, fE_c, eset_0, eset_1i, eset_1r, eset_1n, eset_1l, eset_ss, ↓sIf, ↓sBrk, ↓sCnt, ↓sRetI, ↓sRetL, ↓sRetR, ↓sRet, ↓sRetZ, ↓sSkip, ↓sSw, ↓sK, ↓sPop, ↓sFor_t, ↓sast, ↓sastC, ↓szst, ↓spst, ↓sput, ↓sputZ, ↓sputR, ↓sputN, ↓sputC, ↓sCopy,
    ↓xi, ↓xl, ↓xr, ↓xc, ↓xcl, ↓xadd, ↓xsub, ↓xmul, ↓xdiv, ↓xrem, ↓xand, ↓xor, ↓xxor, ↓xshl, ↓xshr, ↓xneg, ↓xaddl, ↓xsubl, ↓xmull, ↓xdivl, ↓xreml, ↓xnegl, ↓xi2l, ↓xi2c, ↓xofC, ↓xite, ↓xitel, ↓xiter, ↓xmax, ↓xmin, ↓xabs, ↓xabsl,
    ↓xg, ↓xgR, ↓xgO, ↓oR, ↓xald, ↓xzld, ↓xpld, ↓xlen, ↓xstr, ↓xinst, ↓cNot, ↓cAnd, ↓cOr, ↓cEq, ↓cLt, ↓cGt, ↓cEq0, ↓cLt0, ↓cGt0, ↓cEqL, ↓cLtL, ↓cGtL, ↓cEqO,
    ↓kI, ↓kL, ↓kR, ↓kV, ↓kS, ↓kD_e, ↓kP, ↓kT, ↓CALL_t, ↓vI, ↓vL, ↓vR, ↓aN, ↓aC, aenv_i, aenv_l, aenv_r, aenv_0, List.replicate, Nat.reduceSub, Nat.reduceAdd, eset2, kill, List.set_cons_zero, List.set_cons_succ, List.set_nil, List.getElem?_cons_zero, List.getElem?_cons_succ, List.getElem?_nil, List.mem_cons, List.not_mem_nil, or_false, or_true, true_and, and_true, true_or, false_or, false_and, and_false, not_false_eq_true, not_true_eq_false, forall_const, false_imp_iff, imp_false, true_imp_iff, if_true, if_false, implies_true, reduceIte, reduceCtorEq,
    ↓onO_CF, ↓onO_CT, ↓onI_CT1, ↓onO_CN, ↓onI_CN1, ↓onI_CN2, ↓onI_CN3, ↓onI_CN4, ↓onI_CN5, ↓onI_CN6, ↓onI_CN7, ↓onI_CN8, ↓onO_CS, ↓onI_CS1, ↓onP_CS2, ↓onI_CS3, ↓onI_CS4, ↓onI_CS5, ↓fR_f0, ↓fR_f1, ↓fR_f2, ↓fR_f3, ↓fR_f4, ↓fR_f5, ↓fI_f6, ↓fR_f7, ↓fR_t0, ↓fI_t1, ↓fR_s0, ↓fR_s1, ↓fR_s2, ↓fR_s3, ↓fR_s4, ↓fR_s5, ↓fO_s5, ↓fI_s6, ↓fI_s7, ↓fI_s8, ↓fI_s9, ↓fR_n0, ↓fI_n1, ↓fI_n2, ↓fR_n3, ↓fR_n4, ↓fI_n5, ↓fR_n6, ↓fR_n7, ↓fR_n8, ↓fI_n9, ↓fR_n10, ↓fR_n11, ↓fI_n12,
    CHu_F, CHu_T, CHu_T1, CHu_S5, CHu_S6, CHu_S7, CHu_S8, CHu_S9, CHu_a1, CHu_a2, CHu_a3, CHu_a4, CHu_a5, CHu_N1, CHu_N2, CHu_N5, CHu_N9, CHu_N12, CHu_b1, CHu_b2, CHu_b3, CHu_b4, CHu_b5, CHu_b6, CHu_b7, CHu_b8, ffs_len, tfs_len, sfs_len, nfs_len, sl_i, vuS, vuN, vuV, fS_s, Nat.reduceLT, Nat.reduceEqDiff, Nat.le_refl, nI_add, nI_mulN, lit32, nI_clamp, vp_in_nI, nI_ltI, nI_eq, nI_leI, Nat.reduceMul, Nat.zero_add, Nat.add_zero, B_FC_known, M_FC_known]
  refine u_per (by omega) hC.2.1 (fun p hp h6 e hi => ?_) (fun hi => ?_)
  · subst e
    have e : fKnown S (nI p) = knR S n (allR S p n) (hasR S p n) 0 21 := by unfold fKnown; rw [hi, if_pos rfl, hnp, ix_nI (by omega)]
    rw [e] at hK
    simp (disch := first | omega | rfl | (simp (disch := omega) only [vuS, vuN])) only [↓sSeq, ↓sI_f, ↓sL_f, ↓sR_f, ↓sInc_f, fE_c, eset_0, eset_1i, eset_1r, eset_1n, eset_1l, eset_ss, ↓sIf, ↓sBrk, ↓sCnt, ↓sRetI, ↓sRetL, ↓sRetR, ↓sRet, ↓sRetZ, ↓sSkip, ↓sSw, ↓sK, ↓sPop, ↓sFor_t, ↓sast, ↓sastC, ↓szst, ↓spst, ↓sput, ↓sputZ, ↓sputR, ↓sputN, ↓sputC, ↓sCopy,
    ↓xi, ↓xl, ↓xr, ↓xc, ↓xcl, ↓xadd, ↓xsub, ↓xmul, ↓xdiv, ↓xrem, ↓xand, ↓xor, ↓xxor, ↓xshl, ↓xshr, ↓xneg, ↓xaddl, ↓xsubl, ↓xmull, ↓xdivl, ↓xreml, ↓xnegl, ↓xi2l, ↓xi2c, ↓xofC, ↓xite, ↓xitel, ↓xiter, ↓xmax, ↓xmin, ↓xabs, ↓xabsl,
    ↓xg, ↓xgR, ↓xgO, ↓oR, ↓xald, ↓xzld, ↓xpld, ↓xlen, ↓xstr, ↓xinst, ↓cNot, ↓cAnd, ↓cOr, ↓cEq, ↓cLt, ↓cGt, ↓cEq0, ↓cLt0, ↓cGt0, ↓cEqL, ↓cLtL, ↓cGtL, ↓cEqO,
    ↓kI, ↓kL, ↓kR, ↓kV, ↓kS, ↓kD_e, ↓kP, ↓kT, ↓CALL_t, ↓vI, ↓vL, ↓vR, ↓aN, ↓aC, aenv_i, aenv_l, aenv_r, aenv_0, List.replicate, Nat.reduceSub, Nat.reduceAdd, eset2, kill, List.set_cons_zero, List.set_cons_succ, List.set_nil, List.getElem?_cons_zero, List.getElem?_cons_succ, List.getElem?_nil, List.mem_cons, List.not_mem_nil, or_false, or_true, true_and, and_true, true_or, false_or, false_and, and_false, not_false_eq_true, not_true_eq_false, forall_const, false_imp_iff, imp_false, true_imp_iff, if_true, if_false, implies_true, reduceIte, reduceCtorEq,
    ↓onO_CF, ↓onO_CT, ↓onI_CT1, ↓onO_CN, ↓onI_CN1, ↓onI_CN2, ↓onI_CN3, ↓onI_CN4, ↓onI_CN5, ↓onI_CN6, ↓onI_CN7, ↓onI_CN8, ↓onO_CS, ↓onI_CS1, ↓onP_CS2, ↓onI_CS3, ↓onI_CS4, ↓onI_CS5, ↓fR_f0, ↓fR_f1, ↓fR_f2, ↓fR_f3, ↓fR_f4, ↓fR_f5, ↓fI_f6, ↓fR_f7, ↓fR_t0, ↓fI_t1, ↓fR_s0, ↓fR_s1, ↓fR_s2, ↓fR_s3, ↓fR_s4, ↓fR_s5, ↓fO_s5, ↓fI_s6, ↓fI_s7, ↓fI_s8, ↓fI_s9, ↓fR_n0, ↓fI_n1, ↓fI_n2, ↓fR_n3, ↓fR_n4, ↓fI_n5, ↓fR_n6, ↓fR_n7, ↓fR_n8, ↓fI_n9, ↓fR_n10, ↓fR_n11, ↓fI_n12,
    CHu_F, CHu_T, CHu_T1, CHu_S5, CHu_S6, CHu_S7, CHu_S8, CHu_S9, CHu_a1, CHu_a2, CHu_a3, CHu_a4, CHu_a5, CHu_N1, CHu_N2, CHu_N5, CHu_N9, CHu_N12, CHu_b1, CHu_b2, CHu_b3, CHu_b4, CHu_b5, CHu_b6, CHu_b7, CHu_b8, ffs_len, tfs_len, sfs_len, nfs_len, sl_i, vuS, vuN, vuV, fS_s, Nat.reduceLT, Nat.reduceEqDiff, Nat.le_refl, nI_add, nI_mulN, lit32, nI_clamp, vp_in_nI, nI_ltI, nI_eq, nI_leI, Nat.reduceMul, Nat.zero_add, Nat.add_zero]
    refine for_rule (fun m env σ => ∃ (q : Nat), q + m = n ∧ env = [some (.ref (bA X)), some (.int (nI p)), some (.int (allR S p q)), some (.int (hasR S p q)), some (.int (nI q))] ∧ σ = (CH X dh (va_up st 0 (S, w)) (va_up nt 0 S) t im, g)) n ⟨0, by omega, rfl, rfl⟩ ?_
    rintro m env σ P' ⟨q, hq, rfl, rfl⟩ hP
    simp (disch := first | omega | rfl | (simp (disch := omega) only [vuS, vuN])) only [↓sSeq, ↓sI_f, ↓sL_f, ↓sR_f, ↓sInc_f, fE_c, eset_0, eset_1i, eset_1r, eset_1n, eset_1l, eset_ss, ↓sIf, ↓sBrk, ↓sCnt, ↓sRetI, ↓sRetL, ↓sRetR, ↓sRet, ↓sRetZ, ↓sSkip, ↓sSw, ↓sK, ↓sPop, ↓sFor_t, ↓sast, ↓sastC, ↓szst, ↓spst, ↓sput, ↓sputZ, ↓sputR, ↓sputN, ↓sputC, ↓sCopy,
    ↓xi, ↓xl, ↓xr, ↓xc, ↓xcl, ↓xadd, ↓xsub, ↓xmul, ↓xdiv, ↓xrem, ↓xand, ↓xor, ↓xxor, ↓xshl, ↓xshr, ↓xneg, ↓xaddl, ↓xsubl, ↓xmull, ↓xdivl, ↓xreml, ↓xnegl, ↓xi2l, ↓xi2c, ↓xofC, ↓xite, ↓xitel, ↓xiter, ↓xmax, ↓xmin, ↓xabs, ↓xabsl,
    ↓xg, ↓xgR, ↓xgO, ↓oR, ↓xald, ↓xzld, ↓xpld, ↓xlen, ↓xstr, ↓xinst, ↓cNot, ↓cAnd, ↓cOr, ↓cEq, ↓cLt, ↓cGt, ↓cEq0, ↓cLt0, ↓cGt0, ↓cEqL, ↓cLtL, ↓cGtL, ↓cEqO,
    ↓kI, ↓kL, ↓kR, ↓kV, ↓kS, ↓kD_e, ↓kP, ↓kT, ↓CALL_t, ↓vI, ↓vL, ↓vR, ↓aN, ↓aC, aenv_i, aenv_l, aenv_r, aenv_0, List.replicate, Nat.reduceSub, Nat.reduceAdd, eset2, kill, List.set_cons_zero, List.set_cons_succ, List.set_nil, List.getElem?_cons_zero, List.getElem?_cons_succ, List.getElem?_nil, List.mem_cons, List.not_mem_nil, or_false, or_true, true_and, and_true, true_or, false_or, false_and, and_false, not_false_eq_true, not_true_eq_false, forall_const, false_imp_iff, imp_false, true_imp_iff, if_true, if_false, implies_true, reduceIte, reduceCtorEq,
    ↓onO_CF, ↓onO_CT, ↓onI_CT1, ↓onO_CN, ↓onI_CN1, ↓onI_CN2, ↓onI_CN3, ↓onI_CN4, ↓onI_CN5, ↓onI_CN6, ↓onI_CN7, ↓onI_CN8, ↓onO_CS, ↓onI_CS1, ↓onP_CS2, ↓onI_CS3, ↓onI_CS4, ↓onI_CS5, ↓fR_f0, ↓fR_f1, ↓fR_f2, ↓fR_f3, ↓fR_f4, ↓fR_f5, ↓fI_f6, ↓fR_f7, ↓fR_t0, ↓fI_t1, ↓fR_s0, ↓fR_s1, ↓fR_s2, ↓fR_s3, ↓fR_s4, ↓fR_s5, ↓fO_s5, ↓fI_s6, ↓fI_s7, ↓fI_s8, ↓fI_s9, ↓fR_n0, ↓fI_n1, ↓fI_n2, ↓fR_n3, ↓fR_n4, ↓fI_n5, ↓fR_n6, ↓fR_n7, ↓fR_n8, ↓fI_n9, ↓fR_n10, ↓fR_n11, ↓fI_n12,
    CHu_F, CHu_T, CHu_T1, CHu_S5, CHu_S6, CHu_S7, CHu_S8, CHu_S9, CHu_a1, CHu_a2, CHu_a3, CHu_a4, CHu_a5, CHu_N1, CHu_N2, CHu_N5, CHu_N9, CHu_N12, CHu_b1, CHu_b2, CHu_b3, CHu_b4, CHu_b5, CHu_b6, CHu_b7, CHu_b8, ffs_len, tfs_len, sfs_len, nfs_len, sl_i, vuS, vuN, vuV, fS_s, Nat.reduceLT, Nat.reduceEqDiff, Nat.le_refl, nI_add, nI_mulN, lit32, nI_clamp, vp_in_nI, nI_ltI, nI_eq, nI_leI, Nat.reduceMul, Nat.zero_add, Nat.add_zero, hS]
    refine ⟨fun c => ?_, fun c => ?_⟩
    · have z0 : ∀ v : Int32, v ||| nI 0 = v := fun v => Int32.or_zero
      simp (disch := first | omega | rfl | (simp (disch := omega) only [vuS, vuN])) only [↓sSeq, ↓sI_f, ↓sL_f, ↓sR_f, ↓sInc_f, fE_c, eset_0, eset_1i, eset_1r, eset_1n, eset_1l, eset_ss, ↓sIf, ↓sBrk, ↓sCnt, ↓sRetI, ↓sRetL, ↓sRetR, ↓sRet, ↓sRetZ, ↓sSkip, ↓sSw, ↓sK, ↓sPop, ↓sFor_t, ↓sast, ↓sastC, ↓szst, ↓spst, ↓sput, ↓sputZ, ↓sputR, ↓sputN, ↓sputC, ↓sCopy,
    ↓xi, ↓xl, ↓xr, ↓xc, ↓xcl, ↓xadd, ↓xsub, ↓xmul, ↓xdiv, ↓xrem, ↓xand, ↓xor, ↓xxor, ↓xshl, ↓xshr, ↓xneg, ↓xaddl, ↓xsubl, ↓xmull, ↓xdivl, ↓xreml, ↓xnegl, ↓xi2l, ↓xi2c, ↓xofC, ↓xite, ↓xitel, ↓xiter, ↓xmax, ↓xmin, ↓xabs, ↓xabsl,
    ↓xg, ↓xgR, ↓xgO, ↓oR, ↓xald, ↓xzld, ↓xpld, ↓xlen, ↓xstr, ↓xinst, ↓cNot, ↓cAnd, ↓cOr, ↓cEq, ↓cLt, ↓cGt, ↓cEq0, ↓cLt0, ↓cGt0, ↓cEqL, ↓cLtL, ↓cGtL, ↓cEqO,
    ↓kI, ↓kL, ↓kR, ↓kV, ↓kS, ↓kD_e, ↓kP, ↓kT, ↓CALL_t, ↓vI, ↓vL, ↓vR, ↓aN, ↓aC, aenv_i, aenv_l, aenv_r, aenv_0, List.replicate, Nat.reduceSub, Nat.reduceAdd, eset2, kill, List.set_cons_zero, List.set_cons_succ, List.set_nil, List.getElem?_cons_zero, List.getElem?_cons_succ, List.getElem?_nil, List.mem_cons, List.not_mem_nil, or_false, or_true, true_and, and_true, true_or, false_or, false_and, and_false, not_false_eq_true, not_true_eq_false, forall_const, false_imp_iff, imp_false, true_imp_iff, if_true, if_false, implies_true, reduceIte, reduceCtorEq,
    ↓onO_CF, ↓onO_CT, ↓onI_CT1, ↓onO_CN, ↓onI_CN1, ↓onI_CN2, ↓onI_CN3, ↓onI_CN4, ↓onI_CN5, ↓onI_CN6, ↓onI_CN7, ↓onI_CN8, ↓onO_CS, ↓onI_CS1, ↓onP_CS2, ↓onI_CS3, ↓onI_CS4, ↓onI_CS5, ↓fR_f0, ↓fR_f1, ↓fR_f2, ↓fR_f3, ↓fR_f4, ↓fR_f5, ↓fI_f6, ↓fR_f7, ↓fR_t0, ↓fI_t1, ↓fR_s0, ↓fR_s1, ↓fR_s2, ↓fR_s3, ↓fR_s4, ↓fR_s5, ↓fO_s5, ↓fI_s6, ↓fI_s7, ↓fI_s8, ↓fI_s9, ↓fR_n0, ↓fI_n1, ↓fI_n2, ↓fR_n3, ↓fR_n4, ↓fI_n5, ↓fR_n6, ↓fR_n7, ↓fR_n8, ↓fI_n9, ↓fR_n10, ↓fR_n11, ↓fI_n12,
    CHu_F, CHu_T, CHu_T1, CHu_S5, CHu_S6, CHu_S7, CHu_S8, CHu_S9, CHu_a1, CHu_a2, CHu_a3, CHu_a4, CHu_a5, CHu_N1, CHu_N2, CHu_N5, CHu_N9, CHu_N12, CHu_b1, CHu_b2, CHu_b3, CHu_b4, CHu_b5, CHu_b6, CHu_b7, CHu_b8, ffs_len, tfs_len, sfs_len, nfs_len, sl_i, vuS, vuN, vuV, fS_s, Nat.reduceLT, Nat.reduceEqDiff, Nat.le_refl, nI_add, nI_mulN, lit32, nI_clamp, vp_in_nI, nI_ltI, nI_eq, nI_leI, Nat.reduceMul, Nat.zero_add, Nat.add_zero, L_FC_known_1]
      refine ⟨fun c1 => ⟨fun c2 => ?_, fun c2 => ?_⟩, fun c1 => ?_⟩
      · exact hP (m - 1) _ _ (by omega) ⟨q + 1, by omega, by rw [allR_t c1, hasR_t ⟨c1, c2⟩], rfl⟩
      · exact hP (m - 1) _ _ (by omega) ⟨q + 1, by omega, by rw [allR_t c1, hasR_f (fun y => c2 y.2), z0], rfl⟩
      · exact hP (m - 1) _ _ (by omega) ⟨q + 1, by omega, by rw [allR_f c1, hasR_f (fun y => c1 y.1), z0, z0], rfl⟩
    · have : q = n := by omega
      subst this
      refine for_rule (fun m env σ => ∃ (k : Nat) (has : Int32), k + m = 21 ∧ Sub S p q has ∧ knR S q (allR S p q) has k m = knR S q (allR S p q) (hasR S p q) 0 21 ∧ env = [some (.ref (bA X)), some (.int (nI p)), some (.int (allR S p q)), some (.int has), some (.int (nI k))] ∧ σ = (CH X dh (va_up st 0 (S, w)) (va_up nt 0 S) t im, g)) 21 ⟨0, hasR S p q, by omega, sub_has hn q (Nat.le_refl _), rfl, rfl, rfl⟩ ?_
      clear hP
      rintro m env σ P' ⟨k, has, hk, hsub, he, rfl, rfl⟩ hP
      simp (disch := first | omega | rfl | (simp (disch := omega) only [vuS, vuN])) only [↓sSeq, ↓sI_f, ↓sL_f, ↓sR_f, ↓sInc_f, fE_c, eset_0, eset_1i, eset_1r, eset_1n, eset_1l, eset_ss, ↓sIf, ↓sBrk, ↓sCnt, ↓sRetI, ↓sRetL, ↓sRetR, ↓sRet, ↓sRetZ, ↓sSkip, ↓sSw, ↓sK, ↓sPop, ↓sFor_t, ↓sast, ↓sastC, ↓szst, ↓spst, ↓sput, ↓sputZ, ↓sputR, ↓sputN, ↓sputC, ↓sCopy,
    ↓xi, ↓xl, ↓xr, ↓xc, ↓xcl, ↓xadd, ↓xsub, ↓xmul, ↓xdiv, ↓xrem, ↓xand, ↓xor, ↓xxor, ↓xshl, ↓xshr, ↓xneg, ↓xaddl, ↓xsubl, ↓xmull, ↓xdivl, ↓xreml, ↓xnegl, ↓xi2l, ↓xi2c, ↓xofC, ↓xite, ↓xitel, ↓xiter, ↓xmax, ↓xmin, ↓xabs, ↓xabsl,
    ↓xg, ↓xgR, ↓xgO, ↓oR, ↓xald, ↓xzld, ↓xpld, ↓xlen, ↓xstr, ↓xinst, ↓cNot, ↓cAnd, ↓cOr, ↓cEq, ↓cLt, ↓cGt, ↓cEq0, ↓cLt0, ↓cGt0, ↓cEqL, ↓cLtL, ↓cGtL, ↓cEqO,
    ↓kI, ↓kL, ↓kR, ↓kV, ↓kS, ↓kD_e, ↓kP, ↓kT, ↓CALL_t, ↓vI, ↓vL, ↓vR, ↓aN, ↓aC, aenv_i, aenv_l, aenv_r, aenv_0, List.replicate, Nat.reduceSub, Nat.reduceAdd, eset2, kill, List.set_cons_zero, List.set_cons_succ, List.set_nil, List.getElem?_cons_zero, List.getElem?_cons_succ, List.getElem?_nil, List.mem_cons, List.not_mem_nil, or_false, or_true, true_and, and_true, true_or, false_or, false_and, and_false, not_false_eq_true, not_true_eq_false, forall_const, false_imp_iff, imp_false, true_imp_iff, if_true, if_false, implies_true, reduceIte, reduceCtorEq,
    ↓onO_CF, ↓onO_CT, ↓onI_CT1, ↓onO_CN, ↓onI_CN1, ↓onI_CN2, ↓onI_CN3, ↓onI_CN4, ↓onI_CN5, ↓onI_CN6, ↓onI_CN7, ↓onI_CN8, ↓onO_CS, ↓onI_CS1, ↓onP_CS2, ↓onI_CS3, ↓onI_CS4, ↓onI_CS5, ↓fR_f0, ↓fR_f1, ↓fR_f2, ↓fR_f3, ↓fR_f4, ↓fR_f5, ↓fI_f6, ↓fR_f7, ↓fR_t0, ↓fI_t1, ↓fR_s0, ↓fR_s1, ↓fR_s2, ↓fR_s3, ↓fR_s4, ↓fR_s5, ↓fO_s5, ↓fI_s6, ↓fI_s7, ↓fI_s8, ↓fI_s9, ↓fR_n0, ↓fI_n1, ↓fI_n2, ↓fR_n3, ↓fR_n4, ↓fI_n5, ↓fR_n6, ↓fR_n7, ↓fR_n8, ↓fI_n9, ↓fR_n10, ↓fR_n11, ↓fI_n12,
    CHu_F, CHu_T, CHu_T1, CHu_S5, CHu_S6, CHu_S7, CHu_S8, CHu_S9, CHu_a1, CHu_a2, CHu_a3, CHu_a4, CHu_a5, CHu_N1, CHu_N2, CHu_N5, CHu_N9, CHu_N12, CHu_b1, CHu_b2, CHu_b3, CHu_b4, CHu_b5, CHu_b6, CHu_b7, CHu_b8, ffs_len, tfs_len, sfs_len, nfs_len, sl_i, vuS, vuN, vuV, fS_s, Nat.reduceLT, Nat.reduceEqDiff, Nat.le_refl, nI_add, nI_mulN, lit32, nI_clamp, vp_in_nI, nI_ltI, nI_eq, nI_leI, Nat.reduceMul, Nat.zero_add, Nat.add_zero]
      refine ⟨fun c2 => ?_, fun c2 => ?_⟩
      · have : m = 0 := by omega
        subst this
        have he : -nI 5 = _ := he
        rw [he]
        exact hK
      · obtain ⟨m, rfl⟩ : ∃ m', m = m' + 1 := ⟨m - 1, by omega⟩
        have he : (if has = allR S p q then nI k else knR S q (allR S p q) (thenR S q has q) (k + 1) m) = _ := he
        simp (disch := first | omega | rfl | (simp (disch := omega) only [vuS, vuN])) only [↓sSeq, ↓sI_f, ↓sL_f, ↓sR_f, ↓sInc_f, fE_c, eset_0, eset_1i, eset_1r, eset_1n, eset_1l, eset_ss, ↓sIf, ↓sBrk, ↓sCnt, ↓sRetI, ↓sRetL, ↓sRetR, ↓sRet, ↓sRetZ, ↓sSkip, ↓sSw, ↓sK, ↓sPop, ↓sFor_t, ↓sast, ↓sastC, ↓szst, ↓spst, ↓sput, ↓sputZ, ↓sputR, ↓sputN, ↓sputC, ↓sCopy,
    ↓xi, ↓xl, ↓xr, ↓xc, ↓xcl, ↓xadd, ↓xsub, ↓xmul, ↓xdiv, ↓xrem, ↓xand, ↓xor, ↓xxor, ↓xshl, ↓xshr, ↓xneg, ↓xaddl, ↓xsubl, ↓xmull, ↓xdivl, ↓xreml, ↓xnegl, ↓xi2l, ↓xi2c, ↓xofC, ↓xite, ↓xitel, ↓xiter, ↓xmax, ↓xmin, ↓xabs, ↓xabsl,
    ↓xg, ↓xgR, ↓xgO, ↓oR, ↓xald, ↓xzld, ↓xpld, ↓xlen, ↓xstr, ↓xinst, ↓cNot, ↓cAnd, ↓cOr, ↓cEq, ↓cLt, ↓cGt, ↓cEq0, ↓cLt0, ↓cGt0, ↓cEqL, ↓cLtL, ↓cGtL, ↓cEqO,
    ↓kI, ↓kL, ↓kR, ↓kV, ↓kS, ↓kD_e, ↓kP, ↓kT, ↓CALL_t, ↓vI, ↓vL, ↓vR, ↓aN, ↓aC, aenv_i, aenv_l, aenv_r, aenv_0, List.replicate, Nat.reduceSub, Nat.reduceAdd, eset2, kill, List.set_cons_zero, List.set_cons_succ, List.set_nil, List.getElem?_cons_zero, List.getElem?_cons_succ, List.getElem?_nil, List.mem_cons, List.not_mem_nil, or_false, or_true, true_and, and_true, true_or, false_or, false_and, and_false, not_false_eq_true, not_true_eq_false, forall_const, false_imp_iff, imp_false, true_imp_iff, if_true, if_false, implies_true, reduceIte, reduceCtorEq,
    ↓onO_CF, ↓onO_CT, ↓onI_CT1, ↓onO_CN, ↓onI_CN1, ↓onI_CN2, ↓onI_CN3, ↓onI_CN4, ↓onI_CN5, ↓onI_CN6, ↓onI_CN7, ↓onI_CN8, ↓onO_CS, ↓onI_CS1, ↓onP_CS2, ↓onI_CS3, ↓onI_CS4, ↓onI_CS5, ↓fR_f0, ↓fR_f1, ↓fR_f2, ↓fR_f3, ↓fR_f4, ↓fR_f5, ↓fI_f6, ↓fR_f7, ↓fR_t0, ↓fI_t1, ↓fR_s0, ↓fR_s1, ↓fR_s2, ↓fR_s3, ↓fR_s4, ↓fR_s5, ↓fO_s5, ↓fI_s6, ↓fI_s7, ↓fI_s8, ↓fI_s9, ↓fR_n0, ↓fI_n1, ↓fI_n2, ↓fR_n3, ↓fR_n4, ↓fI_n5, ↓fR_n6, ↓fR_n7, ↓fR_n8, ↓fI_n9, ↓fR_n10, ↓fR_n11, ↓fI_n12,
    CHu_F, CHu_T, CHu_T1, CHu_S5, CHu_S6, CHu_S7, CHu_S8, CHu_S9, CHu_a1, CHu_a2, CHu_a3, CHu_a4, CHu_a5, CHu_N1, CHu_N2, CHu_N5, CHu_N9, CHu_N12, CHu_b1, CHu_b2, CHu_b3, CHu_b4, CHu_b5, CHu_b6, CHu_b7, CHu_b8, ffs_len, tfs_len, sfs_len, nfs_len, sl_i, vuS, vuN, vuV, fS_s, Nat.reduceLT, Nat.reduceEqDiff, Nat.le_refl, nI_add, nI_mulN, lit32, nI_clamp, vp_in_nI, nI_ltI, nI_eq, nI_leI, Nat.reduceMul, Nat.zero_add, Nat.add_zero, L_FC_known_2]
        refine ⟨fun z => ?_, fun z => ?_⟩
        · rw [if_pos z] at he
          rw [he]; exact hK
        · rw [if_neg z] at he
          refine u_after (by omega) hn hS hsub ?_
          simp (disch := first | omega | rfl | (simp (disch := omega) only [vuS, vuN])) only [↓sSeq, ↓sI_f, ↓sL_f, ↓sR_f, ↓sInc_f, fE_c, eset_0, eset_1i, eset_1r, eset_1n, eset_1l, eset_ss, ↓sIf, ↓sBrk, ↓sCnt, ↓sRetI, ↓sRetL, ↓sRetR, ↓sRet, ↓sRetZ, ↓sSkip, ↓sSw, ↓sK, ↓sPop, ↓sFor_t, ↓sast, ↓sastC, ↓szst, ↓spst, ↓sput, ↓sputZ, ↓sputR, ↓sputN, ↓sputC, ↓sCopy,
    ↓xi, ↓xl, ↓xr, ↓xc, ↓xcl, ↓xadd, ↓xsub, ↓xmul, ↓xdiv, ↓xrem, ↓xand, ↓xor, ↓xxor, ↓xshl, ↓xshr, ↓xneg, ↓xaddl, ↓xsubl, ↓xmull, ↓xdivl, ↓xreml, ↓xnegl, ↓xi2l, ↓xi2c, ↓xofC, ↓xite, ↓xitel, ↓xiter, ↓xmax, ↓xmin, ↓xabs, ↓xabsl,
    ↓xg, ↓xgR, ↓xgO, ↓oR, ↓xald, ↓xzld, ↓xpld, ↓xlen, ↓xstr, ↓xinst, ↓cNot, ↓cAnd, ↓cOr, ↓cEq, ↓cLt, ↓cGt, ↓cEq0, ↓cLt0, ↓cGt0, ↓cEqL, ↓cLtL, ↓cGtL, ↓cEqO,
    ↓kI, ↓kL, ↓kR, ↓kV, ↓kS, ↓kD_e, ↓kP, ↓kT, ↓CALL_t, ↓vI, ↓vL, ↓vR, ↓aN, ↓aC, aenv_i, aenv_l, aenv_r, aenv_0, List.replicate, Nat.reduceSub, Nat.reduceAdd, eset2, kill, List.set_cons_zero, List.set_cons_succ, List.set_nil, List.getElem?_cons_zero, List.getElem?_cons_succ, List.getElem?_nil, List.mem_cons, List.not_mem_nil, or_false, or_true, true_and, and_true, true_or, false_or, false_and, and_false, not_false_eq_true, not_true_eq_false, forall_const, false_imp_iff, imp_false, true_imp_iff, if_true, if_false, implies_true, reduceIte, reduceCtorEq,
    ↓onO_CF, ↓onO_CT, ↓onI_CT1, ↓onO_CN, ↓onI_CN1, ↓onI_CN2, ↓onI_CN3, ↓onI_CN4, ↓onI_CN5, ↓onI_CN6, ↓onI_CN7, ↓onI_CN8, ↓onO_CS, ↓onI_CS1, ↓onP_CS2, ↓onI_CS3, ↓onI_CS4, ↓onI_CS5, ↓fR_f0, ↓fR_f1, ↓fR_f2, ↓fR_f3, ↓fR_f4, ↓fR_f5, ↓fI_f6, ↓fR_f7, ↓fR_t0, ↓fI_t1, ↓fR_s0, ↓fR_s1, ↓fR_s2, ↓fR_s3, ↓fR_s4, ↓fR_s5, ↓fO_s5, ↓fI_s6, ↓fI_s7, ↓fI_s8, ↓fI_s9, ↓fR_n0, ↓fI_n1, ↓fI_n2, ↓fR_n3, ↓fR_n4, ↓fI_n5, ↓fR_n6, ↓fR_n7, ↓fR_n8, ↓fI_n9, ↓fR_n10, ↓fR_n11, ↓fI_n12,
    CHu_F, CHu_T, CHu_T1, CHu_S5, CHu_S6, CHu_S7, CHu_S8, CHu_S9, CHu_a1, CHu_a2, CHu_a3, CHu_a4, CHu_a5, CHu_N1, CHu_N2, CHu_N5, CHu_N9, CHu_N12, CHu_b1, CHu_b2, CHu_b3, CHu_b4, CHu_b5, CHu_b6, CHu_b7, CHu_b8, ffs_len, tfs_len, sfs_len, nfs_len, sl_i, vuS, vuN, vuV, fS_s, Nat.reduceLT, Nat.reduceEqDiff, Nat.le_refl, nI_add, nI_mulN, lit32, nI_clamp, vp_in_nI, nI_ltI, nI_eq, nI_leI, Nat.reduceMul, Nat.zero_add, Nat.add_zero]
          exact hP m _ _ (by omega) ⟨k + 1, _, by omega, sub_then hn hsub q (Nat.le_refl _), he, rfl, rfl⟩
  · have e : fKnown S x = -1 := by unfold fKnown; rw [hi]; rfl
    rw [e] at hK
    simp (disch := first | omega | rfl | (simp (disch := omega) only [vuS, vuN])) only [↓sSeq, ↓sI_f, ↓sL_f, ↓sR_f, ↓sInc_f, fE_c, eset_0, eset_1i, eset_1r, eset_1n, eset_1l, eset_ss, ↓sIf, ↓sBrk, ↓sCnt, ↓sRetI, ↓sRetL, ↓sRetR, ↓sRet, ↓sRetZ, ↓sSkip, ↓sSw, ↓sK, ↓sPop, ↓sFor_t, ↓sast, ↓sastC, ↓szst, ↓spst, ↓sput, ↓sputZ, ↓sputR, ↓sputN, ↓sputC, ↓sCopy,
    ↓xi, ↓xl, ↓xr, ↓xc, ↓xcl, ↓xadd, ↓xsub, ↓xmul, ↓xdiv, ↓xrem, ↓xand, ↓xor, ↓xxor, ↓xshl, ↓xshr, ↓xneg, ↓xaddl, ↓xsubl, ↓xmull, ↓xdivl, ↓xreml, ↓xnegl, ↓xi2l, ↓xi2c, ↓xofC, ↓xite, ↓xitel, ↓xiter, ↓xmax, ↓xmin, ↓xabs, ↓xabsl,
    ↓xg, ↓xgR, ↓xgO, ↓oR, ↓xald, ↓xzld, ↓xpld, ↓xlen, ↓xstr, ↓xinst, ↓cNot, ↓cAnd, ↓cOr, ↓cEq, ↓cLt, ↓cGt, ↓cEq0, ↓cLt0, ↓cGt0, ↓cEqL, ↓cLtL, ↓cGtL, ↓cEqO,
    ↓kI, ↓kL, ↓kR, ↓kV, ↓kS, ↓kD_e, ↓kP, ↓kT, ↓CALL_t, ↓vI, ↓vL, ↓vR, ↓aN, ↓aC, aenv_i, aenv_l, aenv_r, aenv_0, List.replicate, Nat.reduceSub, Nat.reduceAdd, eset2, kill, List.set_cons_zero, List.set_cons_succ, List.set_nil, List.getElem?_cons_zero, List.getElem?_cons_succ, List.getElem?_nil, List.mem_cons, List.not_mem_nil, or_false, or_true, true_and, and_true, true_or, false_or, false_and, and_false, not_false_eq_true, not_true_eq_false, forall_const, false_imp_iff, imp_false, true_imp_iff, if_true, if_false, implies_true, reduceIte, reduceCtorEq,
    ↓onO_CF, ↓onO_CT, ↓onI_CT1, ↓onO_CN, ↓onI_CN1, ↓onI_CN2, ↓onI_CN3, ↓onI_CN4, ↓onI_CN5, ↓onI_CN6, ↓onI_CN7, ↓onI_CN8, ↓onO_CS, ↓onI_CS1, ↓onP_CS2, ↓onI_CS3, ↓onI_CS4, ↓onI_CS5, ↓fR_f0, ↓fR_f1, ↓fR_f2, ↓fR_f3, ↓fR_f4, ↓fR_f5, ↓fI_f6, ↓fR_f7, ↓fR_t0, ↓fI_t1, ↓fR_s0, ↓fR_s1, ↓fR_s2, ↓fR_s3, ↓fR_s4, ↓fR_s5, ↓fO_s5, ↓fI_s6, ↓fI_s7, ↓fI_s8, ↓fI_s9, ↓fR_n0, ↓fI_n1, ↓fI_n2, ↓fR_n3, ↓fR_n4, ↓fI_n5, ↓fR_n6, ↓fR_n7, ↓fR_n8, ↓fI_n9, ↓fR_n10, ↓fR_n11, ↓fI_n12,
    CHu_F, CHu_T, CHu_T1, CHu_S5, CHu_S6, CHu_S7, CHu_S8, CHu_S9, CHu_a1, CHu_a2, CHu_a3, CHu_a4, CHu_a5, CHu_N1, CHu_N2, CHu_N5, CHu_N9, CHu_N12, CHu_b1, CHu_b2, CHu_b3, CHu_b4, CHu_b5, CHu_b6, CHu_b7, CHu_b8, ffs_len, tfs_len, sfs_len, nfs_len, sl_i, vuS, vuN, vuV, fS_s, Nat.reduceLT, Nat.reduceEqDiff, Nat.le_refl, nI_add, nI_mulN, lit32, nI_clamp, vp_in_nI, nI_ltI, nI_eq, nI_leI, Nat.reduceMul, Nat.zero_add, Nat.add_zero]
    exact hK
end KNC
