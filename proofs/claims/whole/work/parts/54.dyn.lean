section DIV
variable {X : WX} {d : Nat} {h : HM} {K : Option Value → HM → Prop}
abbrev HDs : Type := Int32 × (Int32 × List Int32)
def dynP (X : WX) (a : Nat) : Prop := a = bA X + 27 ∨ bA X + 65 ≤ a
def dynB (X : WX) (b : Nat) : Prop := b = bA X + 21 ∨ bA X + 65 ≤ b
theorem dynP_0 {a : Nat} (h : dynP X a) : dynA X a := by unfold dynP at h; unfold dynA; omega
theorem dynP_1 {a : Nat} (h : dynP X a) : dynA X (a + 1) := by unfold dynP at h; unfold dynA; omega
theorem dynB_j {b j : Nat} (h : dynB X b) (hj : j ≤ 5) : dynA X (b + j) := by unfold dynB at h; unfold dynA; omega
def okL (L : List Int32) : Prop := okQ 0 L ∧ (cd L).length ≤ 100 ∧ (cE 0 L).length ≤ 10
/-- the margin of one at a house -/
def mgOf (L : List Int32) (q : PD) (c w s : Nat) : Int32 := evalR (eP q (nI c) (nI w) (nI s)) L [] 0 - (if q.1 = 3 ∨ q.1 = 6 then q.2.2 else 0)
def fresh : Int32 := -2147483648
/-- what one keeps of the margins is right, for this house -/
def cvOK (Q : Nat → Option HDs) (q : PD) (c : Nat → Int32) (o : Option Nat) : Prop := ∀ b, o = some b → ∃ H, Q b = some H ∧ ∀ cl w s : Nat, cl < 2 → w < 7 → s ≤ 9 → c ((cl * 7 + w) * 10 + s) = fresh ∨ c ((cl * 7 + w) * 10 + s) = mgOf H.2.2 q cl w s
def PK (X : WX) (Q : Nat → Option HDs) (h : HM) (a : Nat) (q : PD) : Prop := dynP X a ∧ q.1 < 7 ∧ q.2.1 < 6 ∧ ∃ (c : Nat → Int32) (o : Option Nat), h a = some (ob (4 + q.1) (pfs a q o)) ∧ h (a + 1) = some (iA X 140 c) ∧ cvOK Q q c o
def HK (X : WX) (h : HM) (b : Nat) (H : HDs) : Prop := dynB X b ∧ okL H.2.2 ∧ ∃ (t : Nat) (x y z : Int32) (v : Nat → Int32), h b = some (ob 3 (hfs b t H.1 H.2.1 (nI (cE 0 H.2.2).length) x y z)) ∧ h (b + 1) = some (iA X 10 (lst ((cE 0 H.2.2).map (fun p => p.1)))) ∧ h (b + 2) = some (iA X 10 (lst ((cE 0 H.2.2).map (fun p => nI p.2)))) ∧ h (b + 3) = some (iA X 100 (lst (cd H.2.2))) ∧ h (b + 4) = some (iA X 6 v)
/-- people and houses stand in the heap as the tables say -/
def DI (X : WX) (P : Nat → Option PD) (Q : Nat → Option HDs) (h : HM) : Prop := (∀ a q, P a = some q → PK X Q h a q) ∧ (∀ b H, Q b = some H → HK X h b H)
/-- nothing else has changed -/
def Fr (X : WX) (h h' : HM) : Prop := ∀ a, ¬ dynA X a → h' a = h a
theorem Fr.rf : Fr X h h := fun _ _ => rfl
theorem Fr.tr {h' h'' : HM} (h1 : Fr X h h') (h2 : Fr X h' h'') : Fr X h h'' := fun a q => (h2 a q).trans (h1 a q)
theorem Fr.up {a : Nat} {e : va_E} (ha : dynA X a) : Fr X h (up h a e) := fun b q => up_n (fun e => q (e ▸ ha))
section DIS
variable {P : Nat → Option PD} {Q : Nat → Option HDs}
theorem DI.v (hD : DI X P Q h) {b : Nat} {H : HDs} (hb : Q b = some H) {v' : Nat → Int32} : DI X P Q (up h (b + 4) (iA X 6 v')) := by
  obtain ⟨-, -, t, x, y, z, v, e0, e1, e2, e3, e4⟩ := hD.2 b H hb
  refine ⟨fun a q ha => ?_, fun b' H' hb' => ?_⟩
  · obtain ⟨p1, p2, p3, c, o, p4, p5, p6⟩ := hD.1 a q ha
    exact ⟨p1, p2, p3, c, o, by rw [up_n (ne_on p4 e4)]; exact p4, by rw [up_n (ne_nn (by omega) p5 e4)]; exact p5, p6⟩
  · obtain ⟨p1, p2, t', x', y', z', w, f0, f1, f2, f3, f4⟩ := hD.2 b' H' hb'
    refine ⟨p1, p2, t', x', y', z', if b' = b then v' else w, by rw [up_n (ne_on f0 e4)]; exact f0, by rw [up_n (ne_nn (by omega) f1 e4)]; exact f1, by rw [up_n (ne_nn (by omega) f2 e4)]; exact f2, by rw [up_n (ne_nn (by omega) f3 e4)]; exact f3, ?_⟩
    by_cases q : b' = b
    · subst q; rw [up_s, if_pos rfl]
    · rw [up_n (by omega), if_neg q]; exact f4
theorem DI.c (hD : DI X P Q h) {a : Nat} {q : PD} (ha : P a = some q) {o : Option Nat} (h0 : h a = some (ob (4 + q.1) (pfs a q o))) {c' : Nat → Int32} (hc : cvOK Q q c' o) : DI X P Q (up h (a + 1) (iA X 140 c')) := by
  obtain ⟨r1, r2, r3, c, o', g0, g1, -⟩ := hD.1 a q ha
  refine ⟨fun a' q' ha' => ?_, fun b H hb => ?_⟩
  · obtain ⟨p1, p2, p3, c2, o2, p4, p5, p6⟩ := hD.1 a' q' ha'
    by_cases e : a' = a
    · subst e
      cases ha.symm.trans ha'
      exact ⟨p1, p2, p3, c', o, by rw [up_n (by omega)]; exact h0, up_s, hc⟩
    · exact ⟨p1, p2, p3, c2, o2, by rw [up_n (ne_on p4 g1)]; exact p4, by rw [up_n (by omega)]; exact p5, p6⟩
  · obtain ⟨p1, p2, t, x, y, z, w, f0, f1, f2, f3, f4⟩ := hD.2 b H hb
    exact ⟨p1, p2, t, x, y, z, w, by rw [up_n (ne_on f0 g1)]; exact f0, by rw [up_n (ne_nn (by omega) f1 g1)]; exact f1, by rw [up_n (ne_nn (by omega) f2 g1)]; exact f2, by rw [up_n (ne_nn (by omega) f3 g1)]; exact f3, by rw [up_n (ne_nn (by omega) f4 g1)]; exact f4⟩
theorem DI.o (hD : DI X P Q h) {a : Nat} {q : PD} (ha : P a = some q) {c : Nat → Int32} (h1 : h (a + 1) = some (iA X 140 c)) {o' : Option Nat} (hc : cvOK Q q c o') : DI X P Q (up h a (ob (4 + q.1) (pfs a q o'))) := by
  obtain ⟨r1, r2, r3, c0, o, g0, g1, -⟩ := hD.1 a q ha
  refine ⟨fun a' q' ha' => ?_, fun b H hb => ?_⟩
  · obtain ⟨p1, p2, p3, c2, o2, p4, p5, p6⟩ := hD.1 a' q' ha'
    by_cases e : a' = a
    · subst e
      cases ha.symm.trans ha'
      exact ⟨p1, p2, p3, c, o', up_s, by rw [up_n (by omega)]; exact h1, hc⟩
    · exact ⟨p1, p2, p3, c2, o2, by rw [up_n e]; exact p4, by rw [up_n (ne_no p5 g0)]; exact p5, p6⟩
  · obtain ⟨p1, p2, t, x, y, z, w, f0, f1, f2, f3, f4⟩ := hD.2 b H hb
    exact ⟨p1, p2, t, x, y, z, w, by rw [up_n (ne_oo (by omega) f0 g0)]; exact f0, by rw [up_n (ne_no f1 g0)]; exact f1, by rw [up_n (ne_no f2 g0)]; exact f2, by rw [up_n (ne_no f3 g0)]; exact f3, by rw [up_n (ne_no f4 g0)]; exact f4⟩
theorem cl_in {k : Nat} (h : k < 7) : (4 + k = 4 ∨ 4 + k = 5 ∨ 4 + k = 6 ∨ 4 + k = 7 ∨ 4 + k = 8 ∨ 4 + k = 9 ∨ 4 + k = 10) = True := eq_true (by omega)
/-- what is asked of Arrays.fill -/
def FillOK (X : WX) : Prop := ∀ (d : Nat), 1 ≤ d → ∀ (h : HM) (a n : Nat) (f : Nat → Int32) (v : Int32) (K : Option Value → HM → Prop), n < 1000 → h a = some (iA X n f) → K none (up h a (iA X n (fun j => if j < n then v else f j))) → CALL X M_JArrays_fill d [.ref a, .int v] h K
def B_margin2 (X : WX) (d : Nat) : ST := (sSeq (sI 2 (xald X (xgR [11] 2 (xr 1)) (xg [4, 5, 6, 7, 8, 9, 10] 0 (xr 0)))) (sSeq (sI 3 (xrem (xg [11] 7 (xr 1)) (xc 7))) (sSeq (sI 4 (xadd (xmul (xadd (xmul (xi 2) (xc 7)) (xi 3)) (xc 10)) (xg [11] 8 (xr 1)))) (sSeq (sIf (cEq (xald X (xgR [4, 5, 6, 7, 8, 9, 10] 2 (xr 0)) (xi 4)) (xc (-2147483648))) (sast X (xgR [4, 5, 6, 7, 8, 9, 10] 2 (xr 0)) (xi 4) (xsub (kI (kV X M_House_marginOf d 3 (xgR [11] 5 (xr 1)) (aC (vR (xr 0)) (aC (vI (xi 2)) (aC (vI (xi 3)) (aC (vI (xg [11] 8 (xr 1))) aN)))))) (kI (kD X TG_Person_rashness d (xr 0) aN)))) sSkip) (sRetI (xald X (xgR [4, 5, 6, 7, 8, 9, 10] 2 (xr 0)) (xi 4)))))))
theorem B_margin_eq {d : Nat} : B_Person_margin X d = sSeq (sIf (cNot (cEqO (xgO [4, 5, 6, 7, 8, 9, 10] 3 (xr 0)) (xgO [11] 5 (xr 1)))) (sSeq (sK (kS X M_JArrays_fill d (aC (vR (xgR [4, 5, 6, 7, 8, 9, 10] 2 (xr 0))) (aC (vI (xc (-2147483648))) aN)))) (sputR [4, 5, 6, 7, 8, 9, 10] 3 (xr 0) (xgR [11] 5 (xr 1)))) sSkip) (B_margin2 X d) := rfl
end DIS
section MRG
variable {P : Nat → Option PD} {Q : Nat → Option HDs} {dh : HM} {st : Nat → SR} {nt : Nat → Nat → Int32} {t : Nat × (Nat → Int32)} {im : Int32}
theorem onO_CHd {a c : Nat} {fs : List Value} (ha : dynA X a) (q : dh a = some (ob c fs)) (P : Nat → List Value → Prop) : onO (CH X dh st nt t im a) P = P c fs := by rw [CH_D ha, q]; rfl
theorem onI_CHd {a n : Nat} {f : Nat → Int32} (ha : dynA X a) (q : dh a = some (iA X n f)) (P : Nat → (Nat → Int32) → Prop) : onI X (CH X dh st nt t im a) P = P n f := by rw [CH_D ha, q]; exact propext onI_iA
theorem t_margC2 {k a : Nat} {q : PD} {H : HDs} {c D s : Nat} (hd : 4 ≤ d) (hDI : DI X P Q dh) (hk : k < 4) (ha : P a = some q) (hH : Q (st k).2.2 = some H) (hc : c < 2) (hcS : (st k).1 (30 + q.2.1) = nI c) (hD : D < 2 ^ 31) (hDS : (st k).1 2 = nI D) (hs : s ≤ 9) (hsS : (st k).1 3 = nI s) {cc : Nat → Int32} (e0 : dh a = some (ob (4 + q.1) (pfs a q (some (st k).2.2)))) (e1 : dh (a + 1) = some (iA X 140 cc)) (hcc : cvOK Q q cc (some (st k).2.2))
    {Kr : KR} {g : Nat × (Nat × Nat)} (hK : ∀ dh', DI X P Q dh' → Fr X dh dh' → Kr (some (.int (mgOf H.2.2 q c (D % 7) s))) (CH X dh' st nt t im, g)) {Kn Kb Kc : KN} : B_margin2 X d [some (.ref a), some (.ref (SB X k)), none, none, none] (CH X dh st nt t im, g) Kn Kb Kc Kr := by
  obtain ⟨p1, p2, p3, -⟩ := hDI.1 a q ha
  obtain ⟨b1, b2, t', x, y, z, v, f0, f1, f2, f3, f4⟩ := hDI.2 _ H hH
  obtain ⟨H', hH', hcv⟩ := hcc _ rfl
  cases hH.symm.trans hH'
  have hin := cl_in p2
  have h7 : D % 7 < 7 := Nat.mod_lt _ (by omega)
  have hcv := hcv c (D % 7) s hc h7 hs
  generalize hw : D % 7 = w at h7 hcv hK ⊢
  have hix : (c * 7 + w) * 10 + s < 140 := by omega
  have hq2 : q.2.1 < 6 := p3
  have qa := onO_CHd (st := st) (nt := nt) (t := t) (im := im) (dynP_0 p1) e0
  have qa1 := onI_CHd (st := st) (nt := nt) (t := t) (im := im) (dynP_1 p1) e1
  have hf0 : CH X dh st nt t im (st k).2.2 = some (ob 3 (hfs (st k).2.2 t' H.1 H.2.1 (nI (cE 0 H.2.2).length) x y z)) := (CH_D (dynB_j (j := 0) b1 (by omega))).trans f0
  have qb : ∀ (P : Nat → List Value → Prop), onO (CH X dh st nt t im (st k).2.2) P = P 3 (hfs (st k).2.2 t' H.1 H.2.1 (nI (cE 0 H.2.2).length) x y z) := fun P => onO_h hf0
  have fin' : ∀ (dh1 : HM) (c1 : Nat → Int32), DI X P Q dh1 → Fr X dh dh1 → c1 ((c * 7 + w) * 10 + s) = mgOf H.2.2 q c w s → Kr (some (.int (c1 ((c * 7 + w) * 10 + s)))) (CH X dh1 st nt t im, g) := fun dh1 c1 h1 h2 h3 => by rw [h3]; exact hK dh1 h1 h2
  simp (disch := first | omega | rfl | (simp (disch := omega) only [vuS, vuN])) only [↓sSeq, ↓sI_f, ↓sL_f, ↓sR_f, ↓sInc_f, fE_c, eset_0, eset_1i, eset_1r, eset_1n, eset_1l, eset_ss, ↓sIf, ↓sBrk, ↓sCnt, ↓sRetI, ↓sRetL, ↓sRetR, ↓sRet, ↓sRetZ, ↓sSkip, ↓sSw, ↓sK, ↓sPop, ↓sFor_t, ↓sast, ↓sastC, ↓szst, ↓spst, ↓sput, ↓sputZ, ↓sputR, ↓sputN, ↓sputC, ↓sCopy,
    ↓xi, ↓xl, ↓xr, ↓xc, ↓xcl, ↓xadd, ↓xsub, ↓xmul, ↓xdiv, ↓xrem, ↓xand, ↓xor, ↓xxor, ↓xshl, ↓xshr, ↓xneg, ↓xaddl, ↓xsubl, ↓xmull, ↓xdivl, ↓xreml, ↓xnegl, ↓xi2l, ↓xi2c, ↓xofC, ↓xite, ↓xitel, ↓xiter, ↓xmax, ↓xmin, ↓xabs, ↓xabsl,
    ↓xg, ↓xgR, ↓xgO, ↓oR, ↓xald, ↓xzld, ↓xpld, ↓xlen, ↓xstr, ↓xinst, ↓cNot, ↓cAnd, ↓cOr, ↓cEq, ↓cLt, ↓cGt, ↓cEq0, ↓cLt0, ↓cGt0, ↓cEqL, ↓cLtL, ↓cGtL, ↓cEqO,
    ↓kI, ↓kL, ↓kR, ↓kV, ↓kS, ↓kD_e, ↓kP, ↓kT, ↓CALL_t, ↓vI, ↓vL, ↓vR, ↓aN, ↓aC, aenv_i, aenv_l, aenv_r, aenv_0, List.replicate, Nat.reduceSub, Nat.reduceAdd, eset2, kill, List.set_cons_zero, List.set_cons_succ, List.set_nil, List.getElem?_cons_zero, List.getElem?_cons_succ, List.getElem?_nil, List.mem_cons, List.not_mem_nil, or_false, or_true, true_and, and_true, true_or, false_or, false_and, and_false, not_false_eq_true, not_true_eq_false, forall_const, false_imp_iff, imp_false, true_imp_iff, if_true, if_false, implies_true, reduceIte, reduceCtorEq,
    ↓onO_CF, ↓onO_CT, ↓onI_CT1, ↓onO_CN, ↓onI_CN1, ↓onI_CN2, ↓onI_CN3, ↓onI_CN4, ↓onI_CN5, ↓onI_CN6, ↓onI_CN7, ↓onI_CN8, ↓onO_CS, ↓onI_CS1, ↓onP_CS2, ↓onI_CS3, ↓onI_CS4, ↓onI_CS5, ↓fR_f0, ↓fR_f1, ↓fR_f2, ↓fR_f3, ↓fR_f4, ↓fR_f5, ↓fI_f6, ↓fR_f7, ↓fR_t0, ↓fI_t1, ↓fR_s0, ↓fR_s1, ↓fR_s2, ↓fR_s3, ↓fR_s4, ↓fR_s5, ↓fO_s5, ↓fI_s6, ↓fI_s7, ↓fI_s8, ↓fI_s9, ↓fR_n0, ↓fI_n1, ↓fI_n2, ↓fR_n3, ↓fR_n4, ↓fI_n5, ↓fR_n6, ↓fR_n7, ↓fR_n8, ↓fI_n9, ↓fR_n10, ↓fR_n11, ↓fI_n12,
    CHu_F, CHu_T, CHu_T1, CHu_S5, CHu_S6, CHu_S7, CHu_S8, CHu_S9, CHu_a1, CHu_a2, CHu_a3, CHu_a4, CHu_a5, CHu_N1, CHu_N2, CHu_N5, CHu_N9, CHu_N12, CHu_b1, CHu_b2, CHu_b3, CHu_b4, CHu_b5, CHu_b6, CHu_b7, CHu_b8, ffs_len, tfs_len, sfs_len, nfs_len, sl_i, vuS, vuN, vuV, fS_s, Nat.reduceLT, Nat.reduceEqDiff, Nat.le_refl,
    ↓fI_h0, ↓fI_h1, ↓fR_h2, ↓fR_h3, ↓fI_h4, ↓fR_h5, ↓fI_h6, ↓fR_h7, ↓fR_h8, ↓fI_h9, ↓fI_h10, ↓fI_p0, ↓fI_p1, ↓fR_p2, ↓fO_p3, hfs_s0, hfs_s1, hfs_s4, hfs_s6, hfs_s8, hfs_s9, hfs_s10, hfs_len, pfs_len, pfs_s3, Nat.reduceLT, Nat.reduceEqDiff, nI_add, nI_mulN, lit32, nI_clamp, vp_in_nI, nI_ltI, nI_eq, nI_leI, Nat.reduceMul, Nat.zero_add, Nat.add_zero, B_margin2, ↓qa, ↓qa1, ↓qb, hin, hcS, hDS, hsS, nI_jrem, hw]
  refine ⟨fun zz => ?_, fun zz => fin' dh cc hDI Fr.rf (hcv.resolve_left zz)⟩
  refine t_hmarg (d := d) (q := q) (L := H.2.2) (by omega) hf0 ((CH_D (dynB_j (j := 1) b1 (by omega))).trans f1) ((CH_D (dynB_j (j := 2) b1 (by omega))).trans f2) ((CH_D (dynB_j (j := 3) b1 (by omega))).trans f3) ((CH_D (dynB_j (j := 4) b1 (by omega))).trans f4) ((CH_D (dynP_0 p1)).trans e0) p2 b2.1 b2.2.1 b2.2.2 (fun v' => ?_)
  have hD1 := hDI.v hH (v' := v')
  have hF1 : Fr X dh (up dh ((st k).2.2 + 4) (iA X 6 v')) := Fr.up (dynB_j (j := 4) b1 (by omega))
  have e0' : up dh ((st k).2.2 + 4) (iA X 6 v') a = some (ob (4 + q.1) (pfs a q (some (st k).2.2))) := (up_n (ne_on e0 f4)).trans e0
  have e1' : up dh ((st k).2.2 + 4) (iA X 6 v') (a + 1) = some (iA X 140 cc) := (up_n (ne_nn (by omega) e1 f4)).trans e1
  rw [CH_upD (dynB_j (j := 4) b1 (by omega))]
  generalize up dh ((st k).2.2 + 4) (iA X 6 v') = dh1 at hD1 hF1 e0' e1' ⊢
  simp (disch := first | omega | rfl | (simp (disch := omega) only [vuS, vuN])) only [↓sSeq, ↓sI_f, ↓sL_f, ↓sR_f, ↓sInc_f, fE_c, eset_0, eset_1i, eset_1r, eset_1n, eset_1l, eset_ss, ↓sIf, ↓sBrk, ↓sCnt, ↓sRetI, ↓sRetL, ↓sRetR, ↓sRet, ↓sRetZ, ↓sSkip, ↓sSw, ↓sK, ↓sPop, ↓sFor_t, ↓sast, ↓sastC, ↓szst, ↓spst, ↓sput, ↓sputZ, ↓sputR, ↓sputN, ↓sputC, ↓sCopy,
    ↓xi, ↓xl, ↓xr, ↓xc, ↓xcl, ↓xadd, ↓xsub, ↓xmul, ↓xdiv, ↓xrem, ↓xand, ↓xor, ↓xxor, ↓xshl, ↓xshr, ↓xneg, ↓xaddl, ↓xsubl, ↓xmull, ↓xdivl, ↓xreml, ↓xnegl, ↓xi2l, ↓xi2c, ↓xofC, ↓xite, ↓xitel, ↓xiter, ↓xmax, ↓xmin, ↓xabs, ↓xabsl,
    ↓xg, ↓xgR, ↓xgO, ↓oR, ↓xald, ↓xzld, ↓xpld, ↓xlen, ↓xstr, ↓xinst, ↓cNot, ↓cAnd, ↓cOr, ↓cEq, ↓cLt, ↓cGt, ↓cEq0, ↓cLt0, ↓cGt0, ↓cEqL, ↓cLtL, ↓cGtL, ↓cEqO,
    ↓kI, ↓kL, ↓kR, ↓kV, ↓kS, ↓kD_e, ↓kP, ↓kT, ↓CALL_t, ↓vI, ↓vL, ↓vR, ↓aN, ↓aC, aenv_i, aenv_l, aenv_r, aenv_0, List.replicate, Nat.reduceSub, Nat.reduceAdd, eset2, kill, List.set_cons_zero, List.set_cons_succ, List.set_nil, List.getElem?_cons_zero, List.getElem?_cons_succ, List.getElem?_nil, List.mem_cons, List.not_mem_nil, or_false, or_true, true_and, and_true, true_or, false_or, false_and, and_false, not_false_eq_true, not_true_eq_false, forall_const, false_imp_iff, imp_false, true_imp_iff, if_true, if_false, implies_true, reduceIte, reduceCtorEq,
    ↓onO_CF, ↓onO_CT, ↓onI_CT1, ↓onO_CN, ↓onI_CN1, ↓onI_CN2, ↓onI_CN3, ↓onI_CN4, ↓onI_CN5, ↓onI_CN6, ↓onI_CN7, ↓onI_CN8, ↓onO_CS, ↓onI_CS1, ↓onP_CS2, ↓onI_CS3, ↓onI_CS4, ↓onI_CS5, ↓fR_f0, ↓fR_f1, ↓fR_f2, ↓fR_f3, ↓fR_f4, ↓fR_f5, ↓fI_f6, ↓fR_f7, ↓fR_t0, ↓fI_t1, ↓fR_s0, ↓fR_s1, ↓fR_s2, ↓fR_s3, ↓fR_s4, ↓fR_s5, ↓fO_s5, ↓fI_s6, ↓fI_s7, ↓fI_s8, ↓fI_s9, ↓fR_n0, ↓fI_n1, ↓fI_n2, ↓fR_n3, ↓fR_n4, ↓fI_n5, ↓fR_n6, ↓fR_n7, ↓fR_n8, ↓fI_n9, ↓fR_n10, ↓fR_n11, ↓fI_n12,
    CHu_F, CHu_T, CHu_T1, CHu_S5, CHu_S6, CHu_S7, CHu_S8, CHu_S9, CHu_a1, CHu_a2, CHu_a3, CHu_a4, CHu_a5, CHu_N1, CHu_N2, CHu_N5, CHu_N9, CHu_N12, CHu_b1, CHu_b2, CHu_b3, CHu_b4, CHu_b5, CHu_b6, CHu_b7, CHu_b8, ffs_len, tfs_len, sfs_len, nfs_len, sl_i, vuS, vuN, vuV, fS_s, Nat.reduceLT, Nat.reduceEqDiff, Nat.le_refl,
    ↓fI_h0, ↓fI_h1, ↓fR_h2, ↓fR_h3, ↓fI_h4, ↓fR_h5, ↓fI_h6, ↓fR_h7, ↓fR_h8, ↓fI_h9, ↓fI_h10, ↓fI_p0, ↓fI_p1, ↓fR_p2, ↓fO_p3, hfs_s0, hfs_s1, hfs_s4, hfs_s6, hfs_s8, hfs_s9, hfs_s10, hfs_len, pfs_len, pfs_s3, Nat.reduceLT, Nat.reduceEqDiff, nI_add, nI_mulN, lit32, nI_clamp, vp_in_nI, nI_ltI, nI_eq, nI_leI, Nat.reduceMul, Nat.zero_add, Nat.add_zero]
  refine d_rash (by omega) p2 ((CH_D (dynP_0 p1)).trans e0') ?_
  have qa' := onO_CHd (st := st) (nt := nt) (t := t) (im := im) (dynP_0 p1) e0'
  have qa1' := onI_CHd (st := st) (nt := nt) (t := t) (im := im) (dynP_1 p1) e1'
  have hmg : evalR (eP q (nI c) (nI w) (nI s)) H.2.2 [] (nI 0) - (if q.1 = 3 ∨ q.1 = 6 then q.2.2 else nI 0) = mgOf H.2.2 q c w s := rfl
  have hcc2 : cvOK Q q (upd cc ((c * 7 + w) * 10 + s) (mgOf H.2.2 q c w s)) (some (st k).2.2) := by
    intro b hb
    cases hb
    obtain ⟨H2, g1, g2⟩ := hcc _ rfl
    cases hH.symm.trans g1
    refine ⟨H, hH, fun cl w' s' k1 k2 k3 => ?_⟩
    by_cases e : (cl * 7 + w') * 10 + s' = (c * 7 + w) * 10 + s
    · have e1 : cl = c := by omega
      have e2 : w' = w := by omega
      have e3 : s' = s := by omega
      subst e1; subst e2; subst e3
      exact Or.inr upd_s
    · rw [upd_n e]
      exact g2 cl w' s' k1 k2 k3
  have hD2 := hD1.c ha e0' hcc2
  have hF2 := hF1.tr (Fr.up (X := X) (e := iA X 140 (upd cc ((c * 7 + w) * 10 + s) (mgOf H.2.2 q c w s))) (dynP_1 p1))
  have e0'' := (up_n (h := dh1) (e := iA X 140 (upd cc ((c * 7 + w) * 10 + s) (mgOf H.2.2 q c w s))) (show ¬ a = a + 1 by omega)).trans e0'
  have qa2 := onO_CHd (st := st) (nt := nt) (t := t) (im := im) (dynP_0 p1) e0''
  have qa3 := onI_CHd (st := st) (nt := nt) (t := t) (im := im) (dynP_1 p1) (up_s (h := dh1) (a := a + 1) (e := iA X 140 (upd cc ((c * 7 + w) * 10 + s) (mgOf H.2.2 q c w s))))
  have hup : ∀ e, up (CH X dh1 st nt t im) (a + 1) e = CH X (up dh1 (a + 1) e) st nt t im := fun e => CH_upD (dynP_1 p1)
  simp (disch := first | omega | rfl | (simp (disch := omega) only [vuS, vuN])) only [↓sSeq, ↓sI_f, ↓sL_f, ↓sR_f, ↓sInc_f, fE_c, eset_0, eset_1i, eset_1r, eset_1n, eset_1l, eset_ss, ↓sIf, ↓sBrk, ↓sCnt, ↓sRetI, ↓sRetL, ↓sRetR, ↓sRet, ↓sRetZ, ↓sSkip, ↓sSw, ↓sK, ↓sPop, ↓sFor_t, ↓sast, ↓sastC, ↓szst, ↓spst, ↓sput, ↓sputZ, ↓sputR, ↓sputN, ↓sputC, ↓sCopy,
    ↓xi, ↓xl, ↓xr, ↓xc, ↓xcl, ↓xadd, ↓xsub, ↓xmul, ↓xdiv, ↓xrem, ↓xand, ↓xor, ↓xxor, ↓xshl, ↓xshr, ↓xneg, ↓xaddl, ↓xsubl, ↓xmull, ↓xdivl, ↓xreml, ↓xnegl, ↓xi2l, ↓xi2c, ↓xofC, ↓xite, ↓xitel, ↓xiter, ↓xmax, ↓xmin, ↓xabs, ↓xabsl,
    ↓xg, ↓xgR, ↓xgO, ↓oR, ↓xald, ↓xzld, ↓xpld, ↓xlen, ↓xstr, ↓xinst, ↓cNot, ↓cAnd, ↓cOr, ↓cEq, ↓cLt, ↓cGt, ↓cEq0, ↓cLt0, ↓cGt0, ↓cEqL, ↓cLtL, ↓cGtL, ↓cEqO,
    ↓kI, ↓kL, ↓kR, ↓kV, ↓kS, ↓kD_e, ↓kP, ↓kT, ↓CALL_t, ↓vI, ↓vL, ↓vR, ↓aN, ↓aC, aenv_i, aenv_l, aenv_r, aenv_0, List.replicate, Nat.reduceSub, Nat.reduceAdd, eset2, kill, List.set_cons_zero, List.set_cons_succ, List.set_nil, List.getElem?_cons_zero, List.getElem?_cons_succ, List.getElem?_nil, List.mem_cons, List.not_mem_nil, or_false, or_true, true_and, and_true, true_or, false_or, false_and, and_false, not_false_eq_true, not_true_eq_false, forall_const, false_imp_iff, imp_false, true_imp_iff, if_true, if_false, implies_true, reduceIte, reduceCtorEq,
    ↓onO_CF, ↓onO_CT, ↓onI_CT1, ↓onO_CN, ↓onI_CN1, ↓onI_CN2, ↓onI_CN3, ↓onI_CN4, ↓onI_CN5, ↓onI_CN6, ↓onI_CN7, ↓onI_CN8, ↓onO_CS, ↓onI_CS1, ↓onP_CS2, ↓onI_CS3, ↓onI_CS4, ↓onI_CS5, ↓fR_f0, ↓fR_f1, ↓fR_f2, ↓fR_f3, ↓fR_f4, ↓fR_f5, ↓fI_f6, ↓fR_f7, ↓fR_t0, ↓fI_t1, ↓fR_s0, ↓fR_s1, ↓fR_s2, ↓fR_s3, ↓fR_s4, ↓fR_s5, ↓fO_s5, ↓fI_s6, ↓fI_s7, ↓fI_s8, ↓fI_s9, ↓fR_n0, ↓fI_n1, ↓fI_n2, ↓fR_n3, ↓fR_n4, ↓fI_n5, ↓fR_n6, ↓fR_n7, ↓fR_n8, ↓fI_n9, ↓fR_n10, ↓fR_n11, ↓fI_n12,
    CHu_F, CHu_T, CHu_T1, CHu_S5, CHu_S6, CHu_S7, CHu_S8, CHu_S9, CHu_a1, CHu_a2, CHu_a3, CHu_a4, CHu_a5, CHu_N1, CHu_N2, CHu_N5, CHu_N9, CHu_N12, CHu_b1, CHu_b2, CHu_b3, CHu_b4, CHu_b5, CHu_b6, CHu_b7, CHu_b8, ffs_len, tfs_len, sfs_len, nfs_len, sl_i, vuS, vuN, vuV, fS_s, Nat.reduceLT, Nat.reduceEqDiff, Nat.le_refl,
    ↓fI_h0, ↓fI_h1, ↓fR_h2, ↓fR_h3, ↓fI_h4, ↓fR_h5, ↓fI_h6, ↓fR_h7, ↓fR_h8, ↓fI_h9, ↓fI_h10, ↓fI_p0, ↓fI_p1, ↓fR_p2, ↓fO_p3, hfs_s0, hfs_s1, hfs_s4, hfs_s6, hfs_s8, hfs_s9, hfs_s10, hfs_len, pfs_len, pfs_s3, Nat.reduceLT, Nat.reduceEqDiff, nI_add, nI_mulN, lit32, nI_clamp, vp_in_nI, nI_ltI, nI_eq, nI_leI, Nat.reduceMul, Nat.zero_add, Nat.add_zero, ↓qa', ↓qa1', hin, hcS, hup, ↓qa2, ↓qa3, hmg]
  exact fin' _ _ hD2 hF2 upd_s
theorem t_margC {k a : Nat} {q : PD} {H : HDs} {c D s : Nat} (hA : FillOK X) (hd : 5 ≤ d) (hDI : DI X P Q dh) (hk : k < 4) (ha : P a = some q) (hH : Q (st k).2.2 = some H) (hc : c < 2) (hcS : (st k).1 (30 + q.2.1) = nI c) (hD : D < 2 ^ 31) (hDS : (st k).1 2 = nI D) (hs : s ≤ 9) (hsS : (st k).1 3 = nI s)
    (hK : ∀ dh', DI X P Q dh' → Fr X dh dh' → K (some (.int (mgOf H.2.2 q c (D % 7) s))) (CH X dh' st nt t im)) : CALL X M_Person_margin d [.ref a, .ref (SB X k)] (CH X dh st nt t im) K := by
  obtain ⟨p1, p2, p3, cc, o, e0, e1, hcc⟩ := hDI.1 a q ha
  have hin := cl_in p2
  have qa := onO_CHd (st := st) (nt := nt) (t := t) (im := im) (dynP_0 p1) e0
  have hup : ∀ (dh1 : HM) e, up (CH X dh1 st nt t im) (a + 1) e = CH X (up dh1 (a + 1) e) st nt t im := fun dh1 e => CH_upD (dynP_1 p1)
  have hup0 : ∀ (dh1 : HM) e, up (CH X dh1 st nt t im) a e = CH X (up dh1 a e) st nt t im := fun dh1 e => CH_upD (dynP_0 p1)
  obtain ⟨d, rfl⟩ : ∃ e, d = e + 1 := ⟨d - 1, by omega⟩
  refine call_of (by decide +kernel) (by decide) (F_Person_margin X d) (Nat.le_of_ble_eq_true rfl) ?_
  intro g
  rw [B_margin_eq]
  simp (disch := first | omega | rfl | (simp (disch := omega) only [vuS, vuN])) only [↓sSeq, ↓sI_f, ↓sL_f, ↓sR_f, ↓sInc_f, fE_c, eset_0, eset_1i, eset_1r, eset_1n, eset_1l, eset_ss, ↓sIf, ↓sBrk, ↓sCnt, ↓sRetI, ↓sRetL, ↓sRetR, ↓sRet, ↓sRetZ, ↓sSkip, ↓sSw, ↓sK, ↓sPop, ↓sFor_t, ↓sast, ↓sastC, ↓szst, ↓spst, ↓sput, ↓sputZ, ↓sputR, ↓sputN, ↓sputC, ↓sCopy,
    ↓xi, ↓xl, ↓xr, ↓xc, ↓xcl, ↓xadd, ↓xsub, ↓xmul, ↓xdiv, ↓xrem, ↓xand, ↓xor, ↓xxor, ↓xshl, ↓xshr, ↓xneg, ↓xaddl, ↓xsubl, ↓xmull, ↓xdivl, ↓xreml, ↓xnegl, ↓xi2l, ↓xi2c, ↓xofC, ↓xite, ↓xitel, ↓xiter, ↓xmax, ↓xmin, ↓xabs, ↓xabsl,
    ↓xg, ↓xgR, ↓xgO, ↓oR, ↓xald, ↓xzld, ↓xpld, ↓xlen, ↓xstr, ↓xinst, ↓cNot, ↓cAnd, ↓cOr, ↓cEq, ↓cLt, ↓cGt, ↓cEq0, ↓cLt0, ↓cGt0, ↓cEqL, ↓cLtL, ↓cGtL, ↓cEqO,
    ↓kI, ↓kL, ↓kR, ↓kV, ↓kS, ↓kD_e, ↓kP, ↓kT, ↓CALL_t, ↓vI, ↓vL, ↓vR, ↓aN, ↓aC, aenv_i, aenv_l, aenv_r, aenv_0, List.replicate, Nat.reduceSub, Nat.reduceAdd, eset2, kill, List.set_cons_zero, List.set_cons_succ, List.set_nil, List.getElem?_cons_zero, List.getElem?_cons_succ, List.getElem?_nil, List.mem_cons, List.not_mem_nil, or_false, or_true, true_and, and_true, true_or, false_or, false_and, and_false, not_false_eq_true, not_true_eq_false, forall_const, false_imp_iff, imp_false, true_imp_iff, if_true, if_false, implies_true, reduceIte, reduceCtorEq,
    ↓onO_CF, ↓onO_CT, ↓onI_CT1, ↓onO_CN, ↓onI_CN1, ↓onI_CN2, ↓onI_CN3, ↓onI_CN4, ↓onI_CN5, ↓onI_CN6, ↓onI_CN7, ↓onI_CN8, ↓onO_CS, ↓onI_CS1, ↓onP_CS2, ↓onI_CS3, ↓onI_CS4, ↓onI_CS5, ↓fR_f0, ↓fR_f1, ↓fR_f2, ↓fR_f3, ↓fR_f4, ↓fR_f5, ↓fI_f6, ↓fR_f7, ↓fR_t0, ↓fI_t1, ↓fR_s0, ↓fR_s1, ↓fR_s2, ↓fR_s3, ↓fR_s4, ↓fR_s5, ↓fO_s5, ↓fI_s6, ↓fI_s7, ↓fI_s8, ↓fI_s9, ↓fR_n0, ↓fI_n1, ↓fI_n2, ↓fR_n3, ↓fR_n4, ↓fI_n5, ↓fR_n6, ↓fR_n7, ↓fR_n8, ↓fI_n9, ↓fR_n10, ↓fR_n11, ↓fI_n12,
    CHu_F, CHu_T, CHu_T1, CHu_S5, CHu_S6, CHu_S7, CHu_S8, CHu_S9, CHu_a1, CHu_a2, CHu_a3, CHu_a4, CHu_a5, CHu_N1, CHu_N2, CHu_N5, CHu_N9, CHu_N12, CHu_b1, CHu_b2, CHu_b3, CHu_b4, CHu_b5, CHu_b6, CHu_b7, CHu_b8, ffs_len, tfs_len, sfs_len, nfs_len, sl_i, vuS, vuN, vuV, fS_s, Nat.reduceLT, Nat.reduceEqDiff, Nat.le_refl,
    ↓fI_h0, ↓fI_h1, ↓fR_h2, ↓fR_h3, ↓fI_h4, ↓fR_h5, ↓fI_h6, ↓fR_h7, ↓fR_h8, ↓fI_h9, ↓fI_h10, ↓fI_p0, ↓fI_p1, ↓fR_p2, ↓fO_p3, hfs_s0, hfs_s1, hfs_s4, hfs_s6, hfs_s8, hfs_s9, hfs_s10, hfs_len, pfs_len, pfs_s3, Nat.reduceLT, Nat.reduceEqDiff, nI_add, nI_mulN, lit32, nI_clamp, vp_in_nI, nI_ltI, nI_eq, nI_leI, Nat.reduceMul, Nat.zero_add, Nat.add_zero, M_Person_margin, ↓qa, hin]
  refine ⟨fun z => ?_, fun z => ?_⟩
  · subst z
    exact t_margC2 (by omega) hDI hk ha hH hc hcS hD hDS hs hsS e0 e1 hcc (fun dh' h1 h2 => ⟨rfl, hK dh' h1 h2⟩)
  · refine hA d (by omega) _ _ _ _ _ _ (by omega) ((CH_D (dynP_1 p1)).trans e1) ?_
    rw [hup]
    have hfr : ∀ j, j < 140 → (fun j => if j < 140 then (-nI 2147483648 : Int32) else cc j) j = fresh := fun j hj => if_pos hj
    generalize (fun j => if j < 140 then (-nI 2147483648 : Int32) else cc j) = c2 at hfr ⊢
    have hc2 : ∀ o', (∀ b, o' = some b → ∃ H, Q b = some H) → cvOK Q q c2 o' := fun o' ho b hb => by
      obtain ⟨H', hH'⟩ := ho b hb
      exact ⟨H', hH', fun cl w s k1 k2 k3 => Or.inl (hfr _ (by omega))⟩
    have hD1 := hDI.c ha e0 (hc2 o (fun b hb => by obtain ⟨H', h1, -⟩ := hcc b hb; exact ⟨H', h1⟩))
    have hF1 : Fr X dh (up dh (a + 1) (iA X 140 c2)) := Fr.up (dynP_1 p1)
    have e0' : up dh (a + 1) (iA X 140 c2) a = some (ob (4 + q.1) (pfs a q o)) := (up_n (by omega)).trans e0
    have e1' : up dh (a + 1) (iA X 140 c2) (a + 1) = some (iA X 140 c2) := up_s
    generalize up dh (a + 1) (iA X 140 c2) = dh1 at hD1 hF1 e0' e1' ⊢
    have qa' := onO_CHd (st := st) (nt := nt) (t := t) (im := im) (dynP_0 p1) e0'
    have hc3 := hc2 (some (st k).2.2) (fun b hb => by cases hb; exact ⟨H, hH⟩)
    have hD2 := hD1.o ha e1' hc3
    have hF2 := hF1.tr (Fr.up (X := X) (e := ob (4 + q.1) (pfs a q (some (st k).2.2))) (dynP_0 p1))
    simp (disch := first | omega | rfl | (simp (disch := omega) only [vuS, vuN])) only [↓sSeq, ↓sI_f, ↓sL_f, ↓sR_f, ↓sInc_f, fE_c, eset_0, eset_1i, eset_1r, eset_1n, eset_1l, eset_ss, ↓sIf, ↓sBrk, ↓sCnt, ↓sRetI, ↓sRetL, ↓sRetR, ↓sRet, ↓sRetZ, ↓sSkip, ↓sSw, ↓sK, ↓sPop, ↓sFor_t, ↓sast, ↓sastC, ↓szst, ↓spst, ↓sput, ↓sputZ, ↓sputR, ↓sputN, ↓sputC, ↓sCopy,
    ↓xi, ↓xl, ↓xr, ↓xc, ↓xcl, ↓xadd, ↓xsub, ↓xmul, ↓xdiv, ↓xrem, ↓xand, ↓xor, ↓xxor, ↓xshl, ↓xshr, ↓xneg, ↓xaddl, ↓xsubl, ↓xmull, ↓xdivl, ↓xreml, ↓xnegl, ↓xi2l, ↓xi2c, ↓xofC, ↓xite, ↓xitel, ↓xiter, ↓xmax, ↓xmin, ↓xabs, ↓xabsl,
    ↓xg, ↓xgR, ↓xgO, ↓oR, ↓xald, ↓xzld, ↓xpld, ↓xlen, ↓xstr, ↓xinst, ↓cNot, ↓cAnd, ↓cOr, ↓cEq, ↓cLt, ↓cGt, ↓cEq0, ↓cLt0, ↓cGt0, ↓cEqL, ↓cLtL, ↓cGtL, ↓cEqO,
    ↓kI, ↓kL, ↓kR, ↓kV, ↓kS, ↓kD_e, ↓kP, ↓kT, ↓CALL_t, ↓vI, ↓vL, ↓vR, ↓aN, ↓aC, aenv_i, aenv_l, aenv_r, aenv_0, List.replicate, Nat.reduceSub, Nat.reduceAdd, eset2, kill, List.set_cons_zero, List.set_cons_succ, List.set_nil, List.getElem?_cons_zero, List.getElem?_cons_succ, List.getElem?_nil, List.mem_cons, List.not_mem_nil, or_false, or_true, true_and, and_true, true_or, false_or, false_and, and_false, not_false_eq_true, not_true_eq_false, forall_const, false_imp_iff, imp_false, true_imp_iff, if_true, if_false, implies_true, reduceIte, reduceCtorEq,
    ↓onO_CF, ↓onO_CT, ↓onI_CT1, ↓onO_CN, ↓onI_CN1, ↓onI_CN2, ↓onI_CN3, ↓onI_CN4, ↓onI_CN5, ↓onI_CN6, ↓onI_CN7, ↓onI_CN8, ↓onO_CS, ↓onI_CS1, ↓onP_CS2, ↓onI_CS3, ↓onI_CS4, ↓onI_CS5, ↓fR_f0, ↓fR_f1, ↓fR_f2, ↓fR_f3, ↓fR_f4, ↓fR_f5, ↓fI_f6, ↓fR_f7, ↓fR_t0, ↓fI_t1, ↓fR_s0, ↓fR_s1, ↓fR_s2, ↓fR_s3, ↓fR_s4, ↓fR_s5, ↓fO_s5, ↓fI_s6, ↓fI_s7, ↓fI_s8, ↓fI_s9, ↓fR_n0, ↓fI_n1, ↓fI_n2, ↓fR_n3, ↓fR_n4, ↓fI_n5, ↓fR_n6, ↓fR_n7, ↓fR_n8, ↓fI_n9, ↓fR_n10, ↓fR_n11, ↓fI_n12,
    CHu_F, CHu_T, CHu_T1, CHu_S5, CHu_S6, CHu_S7, CHu_S8, CHu_S9, CHu_a1, CHu_a2, CHu_a3, CHu_a4, CHu_a5, CHu_N1, CHu_N2, CHu_N5, CHu_N9, CHu_N12, CHu_b1, CHu_b2, CHu_b3, CHu_b4, CHu_b5, CHu_b6, CHu_b7, CHu_b8, ffs_len, tfs_len, sfs_len, nfs_len, sl_i, vuS, vuN, vuV, fS_s, Nat.reduceLT, Nat.reduceEqDiff, Nat.le_refl,
    ↓fI_h0, ↓fI_h1, ↓fR_h2, ↓fR_h3, ↓fI_h4, ↓fR_h5, ↓fI_h6, ↓fR_h7, ↓fR_h8, ↓fI_h9, ↓fI_h10, ↓fI_p0, ↓fI_p1, ↓fR_p2, ↓fO_p3, hfs_s0, hfs_s1, hfs_s4, hfs_s6, hfs_s8, hfs_s9, hfs_s10, hfs_len, pfs_len, pfs_s3, Nat.reduceLT, Nat.reduceEqDiff, nI_add, nI_mulN, lit32, nI_clamp, vp_in_nI, nI_ltI, nI_eq, nI_leI, Nat.reduceMul, Nat.zero_add, Nat.add_zero, ↓qa', hin, hup0]
    exact t_margC2 (by omega) hD2 hk ha hH hc hcS hD hDS hs hsS up_s ((up_n (by omega)).trans e1') hc3 (fun dh' h1 h2 => ⟨rfl, hK dh' h1 (hF2.tr h2)⟩)
end MRG
end DIV
