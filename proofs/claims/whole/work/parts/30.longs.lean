section LONGS
variable {X : WX} {d : Nat} {h : HM} {i : Nat → Int32} {S I F B T : Nat → Int32} {r : Nat → Nat → Int32} {K : Option Value → HM → Prop}
/-! longs -/
def lI (n : Nat) : Int64 := Int64.ofNat n
theorem lI_toInt {n : Nat} (h : n < 2 ^ 63) : (lI n).toInt = n := by unfold lI; exact Int64.toInt_ofNat_of_lt h
theorem lI_eq {a b : Nat} (ha : a < 2 ^ 63) (hb : b < 2 ^ 63) : lI a = lI b ↔ a = b := by
  constructor
  · intro q
    have := congrArg Int64.toInt q
    rw [lI_toInt ha, lI_toInt hb] at this
    omega
  · intro q; rw [q]
theorem lI_mul (a b : Nat) : lI a * lI b = lI (a * b) := by unfold lI; exact (Int64.ofNat_mul a b).symm
theorem lI_1 (a : Nat) : lI a + 1 = lI (a + 1) := by unfold lI; exact (Int64.ofNat_add a 1).symm
theorem lI_div {a k : Nat} (ha : a < 2 ^ 63) (hk : k < 2 ^ 63) : lI a / lI k = lI (a / k) := by
  apply Int64.toInt_inj.mp
  have h1 : a / k < 2 ^ 63 := Nat.lt_of_le_of_lt (Nat.div_le_self a k) ha
  have e : ((a : Int).tdiv (k : Int)) = ((a / k : Nat) : Int) := rfl
  rw [Int64.toInt_div, lI_toInt ha, lI_toInt hk, lI_toInt h1, e]
  generalize a / k = q at h1 ⊢
  exact Int.bmod_eq_of_le (by omega) (by omega)
theorem lI_jrem {a k : Nat} (ha : a < 2 ^ 63) (hk : k < 2 ^ 63) : jreml (lI a) (lI k) = lI (a % k) := by
  unfold jreml
  rw [lI_div ha hk, lI_mul]
  apply Int64.toInt_inj.mp
  have h1 : a % k < 2 ^ 63 := Nat.lt_of_le_of_lt (Nat.mod_le a k) ha
  have h2 : a / k * k ≤ a := Nat.div_mul_le_self a k
  have h3 := Nat.mod_add_div a k
  have h4 : k * (a / k) = a / k * k := Nat.mul_comm _ _
  rw [Int64.toInt_sub, lI_toInt ha, lI_toInt (by omega : a / k * k < 2 ^ 63), lI_toInt h1]
  rw [show ((a : Int) - (a / k * k : Nat)) = ((a % k : Nat) : Int) by omega]
  exact Int.bmod_eq_of_le (by omega) (by omega)
theorem nI_64 {n : Nat} (h : n < 2 ^ 31) : (nI n).toInt64 = lI n := by
  apply Int64.toInt_inj.mp
  rw [Int32.toInt_toInt64, nI_toInt h, lI_toInt (by omega)]
def labs (x : Int64) : Nat := x.toInt.natAbs
theorem labs_n {x : Int64} (h : labs x < 2 ^ 63) (hx : x < 0) : -x = lI (labs x) := by
  have hx := Int64.lt_iff_toInt_lt.mp hx
  rw [show (0 : Int64).toInt = 0 from by decide] at hx
  apply Int64.toInt_inj.mp
  unfold labs at *
  rw [Int64.toInt_neg, lI_toInt h]
  rw [show -x.toInt = ((x.toInt.natAbs : Nat) : Int) by omega]
  exact Int.bmod_eq_of_le (by omega) (by omega)
theorem labs_p {x : Int64} (hx : ¬ x < 0) : x = lI (labs x) := by
  have hx : ¬ x.toInt < 0 := fun q => hx (Int64.lt_iff_toInt_lt.mpr (by rw [show (0 : Int64).toInt = 0 from by decide]; exact q))
  have hh := Int64.toInt_lt x
  apply Int64.toInt_inj.mp
  unfold labs
  rw [lI_toInt (by omega)]
  omega
/-- a fraction's part, in lowest terms -/
def fLow (x : Int64) (n : Nat) (part : Int32) : Int64 := (if part = nI 0 then x else lI n) / lI (Nat.gcd (labs x) n)
theorem t_lowest (hd : 1 ≤ d) {x : Int64} {n : Nat} {part : Int32} (hx : labs x < 2 ^ 62) (hn : 0 < n) (hn2 : n < 2 ^ 62) (hK : K (some (.long (fLow x n part))) h) : CALL X M_Mod_lowest d [.long x, .long (lI n), .int part] h K := by
  have z0 : lI 0 = 0 := rfl
  have hG : 0 < Nat.gcd (labs x) n := Nat.gcd_pos_of_pos_right _ hn
  have hG2 : Nat.gcd (labs x) n ≤ n := Nat.gcd_le_right _ hn
  have hG3 : ¬ lI (Nat.gcd (labs x) n) = 0 := fun q => by
    rw [← z0] at q
    have := (lI_eq (by omega) (by omega)).mp q
    omega
  obtain ⟨d, rfl⟩ : ∃ e, d = e + 1 := ⟨d - 1, by omega⟩
  refine call_of (by decide +kernel) (by decide) (F_Mod_lowest X d) (Nat.le_of_ble_eq_true rfl) ?_
  intro g
  simp (disch := omega) only [↓sSeq, ↓sI_f, ↓sL_f, ↓sR_f, ↓sInc_f, fE_c, eset_0, eset_1i, eset_1r, eset_1n, eset_1l, eset_ss, ↓sIf, ↓sBrk, ↓sCnt, ↓sRetI, ↓sRetL, ↓sRetR, ↓sRet, ↓sRetZ, ↓sSkip, ↓sSw, ↓sK, ↓sPop, ↓sFor_t, ↓sast, ↓sastC, ↓szst, ↓spst, ↓sput, ↓sputZ, ↓sputR, ↓sputN, ↓sputC, ↓sCopy,
    ↓xi, ↓xl, ↓xr, ↓xc, ↓xcl, ↓xadd, ↓xsub, ↓xmul, ↓xdiv, ↓xrem, ↓xand, ↓xor, ↓xxor, ↓xshl, ↓xshr, ↓xneg, ↓xaddl, ↓xsubl, ↓xmull, ↓xdivl, ↓xreml, ↓xnegl, ↓xi2l, ↓xi2c, ↓xofC, ↓xite, ↓xitel, ↓xiter, ↓xmax, ↓xmin, ↓xabs, ↓xabsl,
    ↓xg, ↓xgR, ↓xgO, ↓oR, ↓xald, ↓xzld, ↓xpld, ↓xlen, ↓xstr, ↓xinst, ↓cNot, ↓cAnd, ↓cOr, ↓cEq, ↓cLt, ↓cGt, ↓cEq0, ↓cLt0, ↓cGt0, ↓cEqL, ↓cLtL, ↓cGtL, ↓cEqO,
    ↓kI, ↓kL, ↓kR, ↓kV, ↓kS, ↓kD, ↓kP, ↓kT, ↓CALL_t, ↓vI, ↓vL, ↓vR, ↓aN, ↓aC, aenv_i, aenv_l, aenv_r, aenv_0, List.replicate, Nat.reduceSub, Nat.reduceAdd, eset2, kill, List.set_cons_zero, List.set_cons_succ, List.set_nil, List.getElem?_cons_zero, List.getElem?_cons_succ, List.getElem?_nil, List.mem_cons, List.not_mem_nil, or_false, or_true, true_and, and_true, true_or, false_or, false_and, and_false, not_false_eq_true, not_true_eq_false, forall_const, false_imp_iff, imp_false, true_imp_iff, if_true, if_false, implies_true, reduceIte, reduceCtorEq,
    ↓onO_M, ↓onI_M1, ↓onI_M2, ↓onI_M3, ↓onI_M4, ↓onZ_M5, ↓onI_M6, ↓onI_M7, ↓onI_M8, ↓onI_M9, ↓onI_M10, ↓onI_M11, ↓fR_m1, ↓fR_m2, ↓fR_m3, ↓fR_m10, ↓fR_m11, ↓fR_m13, ↓fR_m14, ↓fR_m15, ↓fR_m16, ↓fR_m18, ↓fR_m19, ↓fI_m0, ↓fI_m4, ↓fI_m5, ↓fI_m6, ↓fI_m7, ↓fI_m8, ↓fI_m9, ↓fI_m12, ↓fI_m17, ↓fI_m20, ↓fI_m21, ↓fI_m22, ↓fI_m23,
    MHu_0, MHu_1, MHu_2, MHu_3, MHu_4, MHu_5, MHu_6, MHu_7, MHu_8, MHu_9, MHu_10, MHu_11, mfs_s4, mfs_s5, mfs_s6, mfs_s7, mfs_s8, mfs_s9, mfs_s12, mfs_s17, mfs_s20, mfs_s21, mfs_s22, mfs_s23, mfs_len, Nat.reduceLT, nI_add, nI_mulN, lit32, nI_clamp, vp_in_nI, nI_ltI, nI_eq, nI_leI, Nat.reduceMul, Nat.zero_add, Nat.add_zero, B_Mod_lowest, M_Mod_lowest]
  have main : ∀ {Kn : KN} {Kr : KR} {t1 : Tag Kn} {t2 : Tag Kr} (y : Int64), y = lI (labs x) → (∀ env : Lc, env[0]? = some (some (.long x)) → env[2]? = some (some (.long (lI n))) → env[4]? = some (some (.int part)) → env[5]? = some (some (.long (lI (Nat.gcd (labs x) n)))) → Kn env (h, g)) → sForT (cNot (cEqL (xl 7) (xcl 0))) (L_Mod_lowest_1 X d) sSkip [some (.long x), none, some (.long (lI n)), none, some (.int part), some (.long y), none, some (.long (lI n)), none, none, none] (h, g) Kn Kr t1 t2 := by
    intro Kn Kr t1 t2 y hy hKn
    refine for_rule (fun m env σ => ∃ (a b : Nat) (x9 x10 : Option Value), a < 2 ^ 62 ∧ b ≤ m ∧ b < 2 ^ 62 ∧ Nat.gcd a b = Nat.gcd (labs x) n ∧ env = [some (.long x), none, some (.long (lI n)), none, some (.int part), some (.long (lI a)), none, some (.long (lI b)), none, x9, x10] ∧ σ = (h, g)) n ⟨labs x, n, _, _, hx, Nat.le_refl _, hn2, rfl, by rw [hy], rfl⟩ ?_
    rintro m env σ P ⟨a, b, x9, x10, ha, hb, hb2, he, rfl, rfl⟩ hP
    simp (disch := omega) only [↓sSeq, ↓sI_f, ↓sL_f, ↓sR_f, ↓sInc_f, fE_c, eset_0, eset_1i, eset_1r, eset_1n, eset_1l, eset_ss, ↓sIf, ↓sBrk, ↓sCnt, ↓sRetI, ↓sRetL, ↓sRetR, ↓sRet, ↓sRetZ, ↓sSkip, ↓sSw, ↓sK, ↓sPop, ↓sFor_t, ↓sast, ↓sastC, ↓szst, ↓spst, ↓sput, ↓sputZ, ↓sputR, ↓sputN, ↓sputC, ↓sCopy,
    ↓xi, ↓xl, ↓xr, ↓xc, ↓xcl, ↓xadd, ↓xsub, ↓xmul, ↓xdiv, ↓xrem, ↓xand, ↓xor, ↓xxor, ↓xshl, ↓xshr, ↓xneg, ↓xaddl, ↓xsubl, ↓xmull, ↓xdivl, ↓xreml, ↓xnegl, ↓xi2l, ↓xi2c, ↓xofC, ↓xite, ↓xitel, ↓xiter, ↓xmax, ↓xmin, ↓xabs, ↓xabsl,
    ↓xg, ↓xgR, ↓xgO, ↓oR, ↓xald, ↓xzld, ↓xpld, ↓xlen, ↓xstr, ↓xinst, ↓cNot, ↓cAnd, ↓cOr, ↓cEq, ↓cLt, ↓cGt, ↓cEq0, ↓cLt0, ↓cGt0, ↓cEqL, ↓cLtL, ↓cGtL, ↓cEqO,
    ↓kI, ↓kL, ↓kR, ↓kV, ↓kS, ↓kD, ↓kP, ↓kT, ↓CALL_t, ↓vI, ↓vL, ↓vR, ↓aN, ↓aC, aenv_i, aenv_l, aenv_r, aenv_0, List.replicate, Nat.reduceSub, Nat.reduceAdd, eset2, kill, List.set_cons_zero, List.set_cons_succ, List.set_nil, List.getElem?_cons_zero, List.getElem?_cons_succ, List.getElem?_nil, List.mem_cons, List.not_mem_nil, or_false, or_true, true_and, and_true, true_or, false_or, false_and, and_false, not_false_eq_true, not_true_eq_false, forall_const, false_imp_iff, imp_false, true_imp_iff, if_true, if_false, implies_true, reduceIte, reduceCtorEq, nI_add, nI_mulN, lit32, nI_clamp, vp_in_nI, nI_ltI, nI_eq, nI_leI, Nat.reduceMul, Nat.zero_add, Nat.add_zero]
    refine ⟨fun z => ?_, fun z => ?_⟩
    · have zb : b = 0 := (lI_eq (a := b) (b := 0) (by omega) (by omega)).mp z
      subst zb
      rw [Nat.gcd_zero_right] at he
      exact hKn _ rfl rfl rfl (by rw [he]; rfl)
    · have zb : b ≠ 0 := fun q => z (by rw [q]; rfl)
      have hm : a % b < b := Nat.mod_lt _ (by omega)
      simp (disch := omega) only [↓sSeq, ↓sI_f, ↓sL_f, ↓sR_f, ↓sInc_f, fE_c, eset_0, eset_1i, eset_1r, eset_1n, eset_1l, eset_ss, ↓sIf, ↓sBrk, ↓sCnt, ↓sRetI, ↓sRetL, ↓sRetR, ↓sRet, ↓sRetZ, ↓sSkip, ↓sSw, ↓sK, ↓sPop, ↓sFor_t, ↓sast, ↓sastC, ↓szst, ↓spst, ↓sput, ↓sputZ, ↓sputR, ↓sputN, ↓sputC, ↓sCopy,
    ↓xi, ↓xl, ↓xr, ↓xc, ↓xcl, ↓xadd, ↓xsub, ↓xmul, ↓xdiv, ↓xrem, ↓xand, ↓xor, ↓xxor, ↓xshl, ↓xshr, ↓xneg, ↓xaddl, ↓xsubl, ↓xmull, ↓xdivl, ↓xreml, ↓xnegl, ↓xi2l, ↓xi2c, ↓xofC, ↓xite, ↓xitel, ↓xiter, ↓xmax, ↓xmin, ↓xabs, ↓xabsl,
    ↓xg, ↓xgR, ↓xgO, ↓oR, ↓xald, ↓xzld, ↓xpld, ↓xlen, ↓xstr, ↓xinst, ↓cNot, ↓cAnd, ↓cOr, ↓cEq, ↓cLt, ↓cGt, ↓cEq0, ↓cLt0, ↓cGt0, ↓cEqL, ↓cLtL, ↓cGtL, ↓cEqO,
    ↓kI, ↓kL, ↓kR, ↓kV, ↓kS, ↓kD, ↓kP, ↓kT, ↓CALL_t, ↓vI, ↓vL, ↓vR, ↓aN, ↓aC, aenv_i, aenv_l, aenv_r, aenv_0, List.replicate, Nat.reduceSub, Nat.reduceAdd, eset2, kill, List.set_cons_zero, List.set_cons_succ, List.set_nil, List.getElem?_cons_zero, List.getElem?_cons_succ, List.getElem?_nil, List.mem_cons, List.not_mem_nil, or_false, or_true, true_and, and_true, true_or, false_or, false_and, and_false, not_false_eq_true, not_true_eq_false, forall_const, false_imp_iff, imp_false, true_imp_iff, if_true, if_false, implies_true, reduceIte, reduceCtorEq, nI_add, nI_mulN, lit32, nI_clamp, vp_in_nI, nI_ltI, nI_eq, nI_leI, Nat.reduceMul, Nat.zero_add, Nat.add_zero, L_Mod_lowest_1]
      refine ⟨z, ?_⟩
      rw [lI_jrem (by omega) (by omega)]
      exact hP (m - 1) _ _ (by omega) ⟨b, a % b, some (.long (lI (a % b))), none, by omega, by omega, by omega, by rw [← he, Nat.gcd_comm b, ← Nat.gcd_rec, Nat.gcd_comm], rfl, rfl⟩
  have tail : ∀ env : Lc, env[0]? = some (some (.long x)) → env[2]? = some (some (.long (lI n))) → env[4]? = some (some (.int part)) → env[5]? = some (some (.long (lI (Nat.gcd (labs x) n)))) → K (some (.long (fLow x n part))) h := fun _ _ _ _ _ => hK
  have pick : ∀ (c : part = nI 0), fLow x n part = x / lI (Nat.gcd (labs x) n) := fun c => by unfold fLow; rw [if_pos c]
  have pick2 : ∀ (c : ¬ part = nI 0), fLow x n part = lI n / lI (Nat.gcd (labs x) n) := fun c => by unfold fLow; rw [if_neg c]
  refine ⟨fun c => main _ (labs_n (by omega) c) (fun env h0 h2 h4 h5 => ?_), fun c => main _ (labs_p c) (fun env h0 h2 h4 h5 => ?_)⟩ <;>
    (simp only [h0, h2, h4, h5]
     refine ⟨fun c => ⟨hG3, trivial, ?_⟩, fun c => ⟨hG3, trivial, ?_⟩⟩
     · rw [← pick c]; exact hK
     · rw [← pick2 c]; exact hK)
/-- a sum of ints, long -/
def csumL (f : Nat → Int32) : Nat → Int64
  | 0 => 0
  | n + 1 => csumL f n + (f n).toInt64
theorem csumL_le {f : Nat → Int32} : ∀ {n : Nat}, n < 1000 → labs (csumL f n) ≤ n * 2 ^ 31
  | 0, _ => by show labs 0 ≤ _; decide
  | n + 1, hn => by
    have ih := csumL_le (f := f) (n := n) (by omega)
    have h1 := Int32.toInt_lt (f n)
    have h2 := Int32.le_toInt (f n)
    show labs (csumL f n + (f n).toInt64) ≤ _
    unfold labs at *
    rw [Int64.toInt_add, Int32.toInt_toInt64]
    have : ((csumL f n).toInt + (f n).toInt).bmod (2 ^ 64) = (csumL f n).toInt + (f n).toInt := Int.bmod_eq_of_le (by omega) (by omega)
    rw [this]
    omega
def fMean (S : Nat → Int32) (part : Int32) : Int64 := if isIn part 0 1 && decide (¬ nP S = 0) then fLow (csumL (sLate S) (nP S)) (nP S) part else -9223372036854775808
theorem t_mean {b : Nat} (hd : 8 ≤ d) (hb : b < 2 ^ 28) (hW : WF b S) {x : Int32} (hK : ∀ B T, K (some (.long (fMean S x))) (MH X h i S I F B T r)) : CALL X M_Mod_mean d [.ref (mB X), .int x] (MH X h i S I F B T r) K := by
  obtain ⟨n, hn, hS⟩ := hW.1
  simp only [fMean, nP_of hn hS] at hK
  obtain ⟨d, rfl⟩ : ∃ e, d = e + 1 := ⟨d - 1, by omega⟩
  refine call_of (by decide +kernel) (by decide) (F_Mod_mean X d) (Nat.le_of_ble_eq_true rfl) ?_
  intro g
  simp (disch := omega) only [↓sSeq, ↓sI_f, ↓sL_f, ↓sR_f, ↓sInc_f, fE_c, eset_0, eset_1i, eset_1r, eset_1n, eset_1l, eset_ss, ↓sIf, ↓sBrk, ↓sCnt, ↓sRetI, ↓sRetL, ↓sRetR, ↓sRet, ↓sRetZ, ↓sSkip, ↓sSw, ↓sK, ↓sPop, ↓sFor_t, ↓sast, ↓sastC, ↓szst, ↓spst, ↓sput, ↓sputZ, ↓sputR, ↓sputN, ↓sputC, ↓sCopy,
    ↓xi, ↓xl, ↓xr, ↓xc, ↓xcl, ↓xadd, ↓xsub, ↓xmul, ↓xdiv, ↓xrem, ↓xand, ↓xor, ↓xxor, ↓xshl, ↓xshr, ↓xneg, ↓xaddl, ↓xsubl, ↓xmull, ↓xdivl, ↓xreml, ↓xnegl, ↓xi2l, ↓xi2c, ↓xofC, ↓xite, ↓xitel, ↓xiter, ↓xmax, ↓xmin, ↓xabs, ↓xabsl,
    ↓xg, ↓xgR, ↓xgO, ↓oR, ↓xald, ↓xzld, ↓xpld, ↓xlen, ↓xstr, ↓xinst, ↓cNot, ↓cAnd, ↓cOr, ↓cEq, ↓cLt, ↓cGt, ↓cEq0, ↓cLt0, ↓cGt0, ↓cEqL, ↓cLtL, ↓cGtL, ↓cEqO,
    ↓kI, ↓kL, ↓kR, ↓kV, ↓kS, ↓kD, ↓kP, ↓kT, ↓CALL_t, ↓vI, ↓vL, ↓vR, ↓aN, ↓aC, aenv_i, aenv_l, aenv_r, aenv_0, List.replicate, Nat.reduceSub, Nat.reduceAdd, eset2, kill, List.set_cons_zero, List.set_cons_succ, List.set_nil, List.getElem?_cons_zero, List.getElem?_cons_succ, List.getElem?_nil, List.mem_cons, List.not_mem_nil, or_false, or_true, true_and, and_true, true_or, false_or, false_and, and_false, not_false_eq_true, not_true_eq_false, forall_const, false_imp_iff, imp_false, true_imp_iff, if_true, if_false, implies_true, reduceIte, reduceCtorEq,
    ↓onO_M, ↓onI_M1, ↓onI_M2, ↓onI_M3, ↓onI_M4, ↓onZ_M5, ↓onI_M6, ↓onI_M7, ↓onI_M8, ↓onI_M9, ↓onI_M10, ↓onI_M11, ↓fR_m1, ↓fR_m2, ↓fR_m3, ↓fR_m10, ↓fR_m11, ↓fR_m13, ↓fR_m14, ↓fR_m15, ↓fR_m16, ↓fR_m18, ↓fR_m19, ↓fI_m0, ↓fI_m4, ↓fI_m5, ↓fI_m6, ↓fI_m7, ↓fI_m8, ↓fI_m9, ↓fI_m12, ↓fI_m17, ↓fI_m20, ↓fI_m21, ↓fI_m22, ↓fI_m23,
    MHu_0, MHu_1, MHu_2, MHu_3, MHu_4, MHu_5, MHu_6, MHu_7, MHu_8, MHu_9, MHu_10, MHu_11, mfs_s4, mfs_s5, mfs_s6, mfs_s7, mfs_s8, mfs_s9, mfs_s12, mfs_s17, mfs_s20, mfs_s21, mfs_s22, mfs_s23, mfs_len, Nat.reduceLT, nI_add, nI_mulN, lit32, nI_clamp, vp_in_nI, nI_ltI, nI_eq, nI_leI, Nat.reduceMul, Nat.zero_add, Nat.add_zero, B_Mod_mean, M_Mod_mean]
  refine t_inb (lo := 0) (hi := 1) (by omega) (fun hi => ?_) (fun hi => ?_)
  · simp (disch := omega) only [↓sSeq, ↓sI_f, ↓sL_f, ↓sR_f, ↓sInc_f, fE_c, eset_0, eset_1i, eset_1r, eset_1n, eset_1l, eset_ss, ↓sIf, ↓sBrk, ↓sCnt, ↓sRetI, ↓sRetL, ↓sRetR, ↓sRet, ↓sRetZ, ↓sSkip, ↓sSw, ↓sK, ↓sPop, ↓sFor_t, ↓sast, ↓sastC, ↓szst, ↓spst, ↓sput, ↓sputZ, ↓sputR, ↓sputN, ↓sputC, ↓sCopy,
    ↓xi, ↓xl, ↓xr, ↓xc, ↓xcl, ↓xadd, ↓xsub, ↓xmul, ↓xdiv, ↓xrem, ↓xand, ↓xor, ↓xxor, ↓xshl, ↓xshr, ↓xneg, ↓xaddl, ↓xsubl, ↓xmull, ↓xdivl, ↓xreml, ↓xnegl, ↓xi2l, ↓xi2c, ↓xofC, ↓xite, ↓xitel, ↓xiter, ↓xmax, ↓xmin, ↓xabs, ↓xabsl,
    ↓xg, ↓xgR, ↓xgO, ↓oR, ↓xald, ↓xzld, ↓xpld, ↓xlen, ↓xstr, ↓xinst, ↓cNot, ↓cAnd, ↓cOr, ↓cEq, ↓cLt, ↓cGt, ↓cEq0, ↓cLt0, ↓cGt0, ↓cEqL, ↓cLtL, ↓cGtL, ↓cEqO,
    ↓kI, ↓kL, ↓kR, ↓kV, ↓kS, ↓kD, ↓kP, ↓kT, ↓CALL_t, ↓vI, ↓vL, ↓vR, ↓aN, ↓aC, aenv_i, aenv_l, aenv_r, aenv_0, List.replicate, Nat.reduceSub, Nat.reduceAdd, eset2, kill, List.set_cons_zero, List.set_cons_succ, List.set_nil, List.getElem?_cons_zero, List.getElem?_cons_succ, List.getElem?_nil, List.mem_cons, List.not_mem_nil, or_false, or_true, true_and, and_true, true_or, false_or, false_and, and_false, not_false_eq_true, not_true_eq_false, forall_const, false_imp_iff, imp_false, true_imp_iff, if_true, if_false, implies_true, reduceIte, reduceCtorEq,
    ↓onO_M, ↓onI_M1, ↓onI_M2, ↓onI_M3, ↓onI_M4, ↓onZ_M5, ↓onI_M6, ↓onI_M7, ↓onI_M8, ↓onI_M9, ↓onI_M10, ↓onI_M11, ↓fR_m1, ↓fR_m2, ↓fR_m3, ↓fR_m10, ↓fR_m11, ↓fR_m13, ↓fR_m14, ↓fR_m15, ↓fR_m16, ↓fR_m18, ↓fR_m19, ↓fI_m0, ↓fI_m4, ↓fI_m5, ↓fI_m6, ↓fI_m7, ↓fI_m8, ↓fI_m9, ↓fI_m12, ↓fI_m17, ↓fI_m20, ↓fI_m21, ↓fI_m22, ↓fI_m23,
    MHu_0, MHu_1, MHu_2, MHu_3, MHu_4, MHu_5, MHu_6, MHu_7, MHu_8, MHu_9, MHu_10, MHu_11, mfs_s4, mfs_s5, mfs_s6, mfs_s7, mfs_s8, mfs_s9, mfs_s12, mfs_s17, mfs_s20, mfs_s21, mfs_s22, mfs_s23, mfs_len, Nat.reduceLT, nI_add, nI_mulN, lit32, nI_clamp, vp_in_nI, nI_ltI, nI_eq, nI_leI, Nat.reduceMul, Nat.zero_add, Nat.add_zero, hS]
    by_cases h0 : n = 0
    · subst h0
      refine ⟨fun _ => ?_, fun c => absurd rfl c⟩
      simp [hi] at hK
      exact hK B T
    · refine ⟨fun c => absurd c h0, fun _ => ?_⟩
      simp only [hi, h0, not_false_eq_true, decide_true, Bool.and_self, if_true] at hK
      refine for_rule (fun m env σ => ∃ (p : Nat) (B T : Nat → Int32), p + m = n ∧ env = [some (.ref (mB X)), some (.int x), some (.long (csumL (sLate S) p)), none, some (.int (nI p))] ∧ σ = (MH X h i S I F B T r, g)) n ⟨0, B, T, by omega, rfl, rfl⟩ ?_
      rintro m env σ P ⟨p, B, T, hp, rfl, rfl⟩ hP
      simp (disch := omega) only [↓sSeq, ↓sI_f, ↓sL_f, ↓sR_f, ↓sInc_f, fE_c, eset_0, eset_1i, eset_1r, eset_1n, eset_1l, eset_ss, ↓sIf, ↓sBrk, ↓sCnt, ↓sRetI, ↓sRetL, ↓sRetR, ↓sRet, ↓sRetZ, ↓sSkip, ↓sSw, ↓sK, ↓sPop, ↓sFor_t, ↓sast, ↓sastC, ↓szst, ↓spst, ↓sput, ↓sputZ, ↓sputR, ↓sputN, ↓sputC, ↓sCopy,
    ↓xi, ↓xl, ↓xr, ↓xc, ↓xcl, ↓xadd, ↓xsub, ↓xmul, ↓xdiv, ↓xrem, ↓xand, ↓xor, ↓xxor, ↓xshl, ↓xshr, ↓xneg, ↓xaddl, ↓xsubl, ↓xmull, ↓xdivl, ↓xreml, ↓xnegl, ↓xi2l, ↓xi2c, ↓xofC, ↓xite, ↓xitel, ↓xiter, ↓xmax, ↓xmin, ↓xabs, ↓xabsl,
    ↓xg, ↓xgR, ↓xgO, ↓oR, ↓xald, ↓xzld, ↓xpld, ↓xlen, ↓xstr, ↓xinst, ↓cNot, ↓cAnd, ↓cOr, ↓cEq, ↓cLt, ↓cGt, ↓cEq0, ↓cLt0, ↓cGt0, ↓cEqL, ↓cLtL, ↓cGtL, ↓cEqO,
    ↓kI, ↓kL, ↓kR, ↓kV, ↓kS, ↓kD, ↓kP, ↓kT, ↓CALL_t, ↓vI, ↓vL, ↓vR, ↓aN, ↓aC, aenv_i, aenv_l, aenv_r, aenv_0, List.replicate, Nat.reduceSub, Nat.reduceAdd, eset2, kill, List.set_cons_zero, List.set_cons_succ, List.set_nil, List.getElem?_cons_zero, List.getElem?_cons_succ, List.getElem?_nil, List.mem_cons, List.not_mem_nil, or_false, or_true, true_and, and_true, true_or, false_or, false_and, and_false, not_false_eq_true, not_true_eq_false, forall_const, false_imp_iff, imp_false, true_imp_iff, if_true, if_false, implies_true, reduceIte, reduceCtorEq,
    ↓onO_M, ↓onI_M1, ↓onI_M2, ↓onI_M3, ↓onI_M4, ↓onZ_M5, ↓onI_M6, ↓onI_M7, ↓onI_M8, ↓onI_M9, ↓onI_M10, ↓onI_M11, ↓fR_m1, ↓fR_m2, ↓fR_m3, ↓fR_m10, ↓fR_m11, ↓fR_m13, ↓fR_m14, ↓fR_m15, ↓fR_m16, ↓fR_m18, ↓fR_m19, ↓fI_m0, ↓fI_m4, ↓fI_m5, ↓fI_m6, ↓fI_m7, ↓fI_m8, ↓fI_m9, ↓fI_m12, ↓fI_m17, ↓fI_m20, ↓fI_m21, ↓fI_m22, ↓fI_m23,
    MHu_0, MHu_1, MHu_2, MHu_3, MHu_4, MHu_5, MHu_6, MHu_7, MHu_8, MHu_9, MHu_10, MHu_11, mfs_s4, mfs_s5, mfs_s6, mfs_s7, mfs_s8, mfs_s9, mfs_s12, mfs_s17, mfs_s20, mfs_s21, mfs_s22, mfs_s23, mfs_len, Nat.reduceLT, nI_add, nI_mulN, lit32, nI_clamp, vp_in_nI, nI_ltI, nI_eq, nI_leI, Nat.reduceMul, Nat.zero_add, Nat.add_zero, hS]
      refine ⟨fun c => ?_, fun c => ?_⟩
      · simp (disch := omega) only [↓sSeq, ↓sI_f, ↓sL_f, ↓sR_f, ↓sInc_f, fE_c, eset_0, eset_1i, eset_1r, eset_1n, eset_1l, eset_ss, ↓sIf, ↓sBrk, ↓sCnt, ↓sRetI, ↓sRetL, ↓sRetR, ↓sRet, ↓sRetZ, ↓sSkip, ↓sSw, ↓sK, ↓sPop, ↓sFor_t, ↓sast, ↓sastC, ↓szst, ↓spst, ↓sput, ↓sputZ, ↓sputR, ↓sputN, ↓sputC, ↓sCopy,
    ↓xi, ↓xl, ↓xr, ↓xc, ↓xcl, ↓xadd, ↓xsub, ↓xmul, ↓xdiv, ↓xrem, ↓xand, ↓xor, ↓xxor, ↓xshl, ↓xshr, ↓xneg, ↓xaddl, ↓xsubl, ↓xmull, ↓xdivl, ↓xreml, ↓xnegl, ↓xi2l, ↓xi2c, ↓xofC, ↓xite, ↓xitel, ↓xiter, ↓xmax, ↓xmin, ↓xabs, ↓xabsl,
    ↓xg, ↓xgR, ↓xgO, ↓oR, ↓xald, ↓xzld, ↓xpld, ↓xlen, ↓xstr, ↓xinst, ↓cNot, ↓cAnd, ↓cOr, ↓cEq, ↓cLt, ↓cGt, ↓cEq0, ↓cLt0, ↓cGt0, ↓cEqL, ↓cLtL, ↓cGtL, ↓cEqO,
    ↓kI, ↓kL, ↓kR, ↓kV, ↓kS, ↓kD, ↓kP, ↓kT, ↓CALL_t, ↓vI, ↓vL, ↓vR, ↓aN, ↓aC, aenv_i, aenv_l, aenv_r, aenv_0, List.replicate, Nat.reduceSub, Nat.reduceAdd, eset2, kill, List.set_cons_zero, List.set_cons_succ, List.set_nil, List.getElem?_cons_zero, List.getElem?_cons_succ, List.getElem?_nil, List.mem_cons, List.not_mem_nil, or_false, or_true, true_and, and_true, true_or, false_or, false_and, and_false, not_false_eq_true, not_true_eq_false, forall_const, false_imp_iff, imp_false, true_imp_iff, if_true, if_false, implies_true, reduceIte, reduceCtorEq,
    ↓onO_M, ↓onI_M1, ↓onI_M2, ↓onI_M3, ↓onI_M4, ↓onZ_M5, ↓onI_M6, ↓onI_M7, ↓onI_M8, ↓onI_M9, ↓onI_M10, ↓onI_M11, ↓fR_m1, ↓fR_m2, ↓fR_m3, ↓fR_m10, ↓fR_m11, ↓fR_m13, ↓fR_m14, ↓fR_m15, ↓fR_m16, ↓fR_m18, ↓fR_m19, ↓fI_m0, ↓fI_m4, ↓fI_m5, ↓fI_m6, ↓fI_m7, ↓fI_m8, ↓fI_m9, ↓fI_m12, ↓fI_m17, ↓fI_m20, ↓fI_m21, ↓fI_m22, ↓fI_m23,
    MHu_0, MHu_1, MHu_2, MHu_3, MHu_4, MHu_5, MHu_6, MHu_7, MHu_8, MHu_9, MHu_10, MHu_11, mfs_s4, mfs_s5, mfs_s6, mfs_s7, mfs_s8, mfs_s9, mfs_s12, mfs_s17, mfs_s20, mfs_s21, mfs_s22, mfs_s23, mfs_len, Nat.reduceLT, nI_add, nI_mulN, lit32, nI_clamp, vp_in_nI, nI_ltI, nI_eq, nI_leI, Nat.reduceMul, Nat.zero_add, Nat.add_zero, L_Mod_mean_1]
        refine t_late (by omega) (by omega) (by omega) hW (fun B T => ?_)
        simp (disch := omega) only [↓sSeq, ↓sI_f, ↓sL_f, ↓sR_f, ↓sInc_f, fE_c, eset_0, eset_1i, eset_1r, eset_1n, eset_1l, eset_ss, ↓sIf, ↓sBrk, ↓sCnt, ↓sRetI, ↓sRetL, ↓sRetR, ↓sRet, ↓sRetZ, ↓sSkip, ↓sSw, ↓sK, ↓sPop, ↓sFor_t, ↓sast, ↓sastC, ↓szst, ↓spst, ↓sput, ↓sputZ, ↓sputR, ↓sputN, ↓sputC, ↓sCopy,
    ↓xi, ↓xl, ↓xr, ↓xc, ↓xcl, ↓xadd, ↓xsub, ↓xmul, ↓xdiv, ↓xrem, ↓xand, ↓xor, ↓xxor, ↓xshl, ↓xshr, ↓xneg, ↓xaddl, ↓xsubl, ↓xmull, ↓xdivl, ↓xreml, ↓xnegl, ↓xi2l, ↓xi2c, ↓xofC, ↓xite, ↓xitel, ↓xiter, ↓xmax, ↓xmin, ↓xabs, ↓xabsl,
    ↓xg, ↓xgR, ↓xgO, ↓oR, ↓xald, ↓xzld, ↓xpld, ↓xlen, ↓xstr, ↓xinst, ↓cNot, ↓cAnd, ↓cOr, ↓cEq, ↓cLt, ↓cGt, ↓cEq0, ↓cLt0, ↓cGt0, ↓cEqL, ↓cLtL, ↓cGtL, ↓cEqO,
    ↓kI, ↓kL, ↓kR, ↓kV, ↓kS, ↓kD, ↓kP, ↓kT, ↓CALL_t, ↓vI, ↓vL, ↓vR, ↓aN, ↓aC, aenv_i, aenv_l, aenv_r, aenv_0, List.replicate, Nat.reduceSub, Nat.reduceAdd, eset2, kill, List.set_cons_zero, List.set_cons_succ, List.set_nil, List.getElem?_cons_zero, List.getElem?_cons_succ, List.getElem?_nil, List.mem_cons, List.not_mem_nil, or_false, or_true, true_and, and_true, true_or, false_or, false_and, and_false, not_false_eq_true, not_true_eq_false, forall_const, false_imp_iff, imp_false, true_imp_iff, if_true, if_false, implies_true, reduceIte, reduceCtorEq,
    ↓onO_M, ↓onI_M1, ↓onI_M2, ↓onI_M3, ↓onI_M4, ↓onZ_M5, ↓onI_M6, ↓onI_M7, ↓onI_M8, ↓onI_M9, ↓onI_M10, ↓onI_M11, ↓fR_m1, ↓fR_m2, ↓fR_m3, ↓fR_m10, ↓fR_m11, ↓fR_m13, ↓fR_m14, ↓fR_m15, ↓fR_m16, ↓fR_m18, ↓fR_m19, ↓fI_m0, ↓fI_m4, ↓fI_m5, ↓fI_m6, ↓fI_m7, ↓fI_m8, ↓fI_m9, ↓fI_m12, ↓fI_m17, ↓fI_m20, ↓fI_m21, ↓fI_m22, ↓fI_m23,
    MHu_0, MHu_1, MHu_2, MHu_3, MHu_4, MHu_5, MHu_6, MHu_7, MHu_8, MHu_9, MHu_10, MHu_11, mfs_s4, mfs_s5, mfs_s6, mfs_s7, mfs_s8, mfs_s9, mfs_s12, mfs_s17, mfs_s20, mfs_s21, mfs_s22, mfs_s23, mfs_len, Nat.reduceLT, nI_add, nI_mulN, lit32, nI_clamp, vp_in_nI, nI_ltI, nI_eq, nI_leI, Nat.reduceMul, Nat.zero_add, Nat.add_zero]
        exact hP (m - 1) _ _ (by omega) ⟨p + 1, B, T, by omega, rfl, rfl⟩
      · have : p = n := by omega
        subst this
        rw [nI_64 (by omega)]
        refine t_lowest (by omega) ?_ (by omega) (by omega) ⟨rfl, hK B T⟩
        have := csumL_le (f := sLate S) (n := p) (by omega)
        omega
  · have hK := hK B T
    simp (disch := omega) only [↓sSeq, ↓sI_f, ↓sL_f, ↓sR_f, ↓sInc_f, fE_c, eset_0, eset_1i, eset_1r, eset_1n, eset_1l, eset_ss, ↓sIf, ↓sBrk, ↓sCnt, ↓sRetI, ↓sRetL, ↓sRetR, ↓sRet, ↓sRetZ, ↓sSkip, ↓sSw, ↓sK, ↓sPop, ↓sFor_t, ↓sast, ↓sastC, ↓szst, ↓spst, ↓sput, ↓sputZ, ↓sputR, ↓sputN, ↓sputC, ↓sCopy,
    ↓xi, ↓xl, ↓xr, ↓xc, ↓xcl, ↓xadd, ↓xsub, ↓xmul, ↓xdiv, ↓xrem, ↓xand, ↓xor, ↓xxor, ↓xshl, ↓xshr, ↓xneg, ↓xaddl, ↓xsubl, ↓xmull, ↓xdivl, ↓xreml, ↓xnegl, ↓xi2l, ↓xi2c, ↓xofC, ↓xite, ↓xitel, ↓xiter, ↓xmax, ↓xmin, ↓xabs, ↓xabsl,
    ↓xg, ↓xgR, ↓xgO, ↓oR, ↓xald, ↓xzld, ↓xpld, ↓xlen, ↓xstr, ↓xinst, ↓cNot, ↓cAnd, ↓cOr, ↓cEq, ↓cLt, ↓cGt, ↓cEq0, ↓cLt0, ↓cGt0, ↓cEqL, ↓cLtL, ↓cGtL, ↓cEqO,
    ↓kI, ↓kL, ↓kR, ↓kV, ↓kS, ↓kD, ↓kP, ↓kT, ↓CALL_t, ↓vI, ↓vL, ↓vR, ↓aN, ↓aC, aenv_i, aenv_l, aenv_r, aenv_0, List.replicate, Nat.reduceSub, Nat.reduceAdd, eset2, kill, List.set_cons_zero, List.set_cons_succ, List.set_nil, List.getElem?_cons_zero, List.getElem?_cons_succ, List.getElem?_nil, List.mem_cons, List.not_mem_nil, or_false, or_true, true_and, and_true, true_or, false_or, false_and, and_false, not_false_eq_true, not_true_eq_false, forall_const, false_imp_iff, imp_false, true_imp_iff, if_true, if_false, implies_true, reduceIte, reduceCtorEq,
    ↓onO_M, ↓onI_M1, ↓onI_M2, ↓onI_M3, ↓onI_M4, ↓onZ_M5, ↓onI_M6, ↓onI_M7, ↓onI_M8, ↓onI_M9, ↓onI_M10, ↓onI_M11, ↓fR_m1, ↓fR_m2, ↓fR_m3, ↓fR_m10, ↓fR_m11, ↓fR_m13, ↓fR_m14, ↓fR_m15, ↓fR_m16, ↓fR_m18, ↓fR_m19, ↓fI_m0, ↓fI_m4, ↓fI_m5, ↓fI_m6, ↓fI_m7, ↓fI_m8, ↓fI_m9, ↓fI_m12, ↓fI_m17, ↓fI_m20, ↓fI_m21, ↓fI_m22, ↓fI_m23,
    MHu_0, MHu_1, MHu_2, MHu_3, MHu_4, MHu_5, MHu_6, MHu_7, MHu_8, MHu_9, MHu_10, MHu_11, mfs_s4, mfs_s5, mfs_s6, mfs_s7, mfs_s8, mfs_s9, mfs_s12, mfs_s17, mfs_s20, mfs_s21, mfs_s22, mfs_s23, mfs_len, Nat.reduceLT, nI_add, nI_mulN, lit32, nI_clamp, vp_in_nI, nI_ltI, nI_eq, nI_leI, Nat.reduceMul, Nat.zero_add, Nat.add_zero]
    simp [hi] at hK
    exact hK
end LONGS
