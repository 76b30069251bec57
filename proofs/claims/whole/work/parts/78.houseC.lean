section HOUC
variable {X : WX} {d b nx a e : Nat} {K : Option Value → HM → Nat → Prop} {P : Nat → Option PD} {Q : Nat → Option HDs} {dh : HM} {st : Nat → SR} {nt : Nat → Nat → Int32} {t : Nat × (Nat → Int32)} {im : Int32} {S : Nat → Int32} {w : (Nat → Option Nat) × Nat}
theorem pCl_lo {j : Nat} (hj : j < 200) : ∀ (n : Nat) (z : (Nat → Int32) × PSt), (pCl a e n z).1 j = z.1 j
  | 0, z => rfl
  | n + 1, z => by
    show (if z.2.2.1 = false ∧ pHere (tape z.1) e z.2.1 = nI 59 then pCl a e n (pClause a e (z.1, (z.2.1 + 1, z.2.2))) else z).1 j = z.1 j
    split
    · rw [pCl_lo hj, pClause_lo hj]
    · rfl
theorem hEnd_lo {j : Nat} (hj : j < 200) (h16 : j ≠ 16) : (hEnd S).1 j = S j := by
  unfold hEnd
  rw [pCl_lo hj, pClause_lo hj]
  exact hS_lo hj h16
theorem hEnd_16 : (hEnd S).1 16 = nI 0 := by
  unfold hEnd
  rw [pCl_lo (by omega), pClause_lo (by omega)]
  unfold hS
  dsimp only
  rw [upd_n (by omega), upd_n (by omega), upd_n (by omega), upd_s]
theorem RH_CH {tx : Nat} {vals : Nat → Int32} {l ea : Int32} {q : PSt} (ha : bA X + 65 ≤ a) : RH X (CH X dh st nt t im) a tx vals e l ea q = CH X (RH X dh a tx vals e l ea q) st nt t im := by
  funext p
  unfold RH CH
  by_cases z : a ≤ p ∧ p ≤ a + 4
  · rw [if_pos z, if_neg (by omega)]; exact (if_pos z).symm
  · rw [if_neg z]
    split
    · rfl
    · exact (if_neg z).symm
theorem tape_sl : sl S 100 100 = tape S := rfl
/-- a house that has been read -/
def HH (X : WX) (dh : HM) (a tx : Nat) (e : Nat) (l ea : Int32) (q : PSt) : HM := RH X (up dh (a + 5) (iA X 0 (fun _ => 0))) a tx (fun _ => 0) e l ea q
theorem HH_o {tx : Nat} {l ea : Int32} {q : PSt} {p : Nat} (hp : p < a) : HH X dh a tx e l ea q p = dh p := by
  unfold HH
  rw [RH_o (by omega), up_n (by omega)]
theorem DI.h0 (hD : DI X P Q dh) (hN : Nw X P Q nx) {tx : Nat} {l ea : Int32} {q : PSt} : DI X P Q (HH X dh nx tx e l ea q) := by
  obtain ⟨n1, n2, n3⟩ := hN
  refine ⟨fun a q ha => ?_, fun b' H hb => ?_⟩
  · have := n2 _ _ ha
    obtain ⟨p1, p2, p3, c, o, p4, p5, p6⟩ := hD.1 a q ha
    exact ⟨p1, p2, p3, c, o, by rw [HH_o (by omega)]; exact p4, by rw [HH_o (by omega)]; exact p5, p6⟩
  · have := n3 _ _ hb
    obtain ⟨p1, p2, t, x, y, z, w, f0, f1, f2, f3, f4⟩ := hD.2 b' H hb
    refine ⟨p1, p2, t, x, y, z, w, ?_, ?_, ?_, ?_, ?_⟩ <;> (rw [HH_o (by omega)]; assumption)
theorem DI.newH (hD : DI X P Q dh) (hN : Nw X P Q nx) {tx : Nat} {l ea : Int32} {s : Nat} {L : List Int32} (hL : okL L) : DI X P (vP Q nx (l, (ea, L))) (HH X dh nx tx e l ea (s, (false, L))) ∧ Nw X P (vP Q nx (l, (ea, L))) (nx + 6) ∧ PE Q (vP Q nx (l, (ea, L))) := by
  have hpe : PE Q (vP Q nx (l, (ea, L))) := fun b' H hb => by rw [vP_n (by have := hN.2.2 _ _ hb; omega)]; exact hb
  have hD0 := hD.h0 hN (tx := tx) (e := e) (l := l) (ea := ea) (q := (s, (false, L)))
  obtain ⟨n1, n2, n3⟩ := hN
  refine ⟨⟨fun a q ha => ?_, fun b' H hb => ?_⟩, ⟨by omega, fun a q ha => ?_, fun b' H hb => ?_⟩, hpe⟩
  · obtain ⟨p1, p2, p3, c, o, p4, p5, p6⟩ := hD0.1 a q ha
    exact ⟨p1, p2, p3, c, o, p4, p5, p6.more hpe⟩
  · by_cases z : b' = nx
    · subst z
      rw [vP_s] at hb
      cases hb
      refine ⟨Or.inr n1, hL, tx, nI (cd L).length, nI e, nI s, fun _ => 0, ?_, ?_, ?_, ?_, ?_⟩
      · exact RH_at 0 (by omega)
      · exact RH_at 1 (by omega)
      · exact RH_at 2 (by omega)
      · exact RH_at 3 (by omega)
      · exact RH_at 4 (by omega)
    · rw [vP_n z] at hb
      exact hD0.2 b' H hb
  · have := n2 _ _ ha; omega
  · by_cases z : b' = nx
    · omega
    · rw [vP_n z] at hb; have := n3 _ _ hb; omega
theorem Nw.le {nx' : Nat} (h : Nw X P Q nx) (hn : nx ≤ nx') : Nw X P Q nx' := ⟨by have := h.1; omega, fun a q ha => by have := h.2.1 _ _ ha; omega, fun b' H hb => by have := h.2.2 _ _ hb; omega⟩
theorem u_house (hX : StrOK X) (hX2 : StrIx X) (hd : 40 ≤ d) (hDI : DI X P Q dh) (hN : Nw X P Q nx) (ha : a ≤ 5) (hSa : S 12 = nI a) (he : e ≤ 100) (hSe : S 16 = nI e) (hTp : ∀ j, ∃ m, m < 128 ∧ tape S j = nI m)
    (h0 : a = 5 → K (some (.int (fHouse S).1)) (CS X dh st nt t im (fHouse S).2 w) nx)
    (h1 : ∀ dh' S' s w0 L, a < 5 → hEnd S = (S', (s, (w0, L))) → (w0 = true ∨ ¬ s = e) → RQ 10 e (s, (w0, L)) → DI X P Q dh' → Nw X P Q (nx + 6) → (∀ p, p < nx → dh' p = dh p) → K (some (.int (fHouse S).1)) (CS X dh' st nt t im (fHouse S).2 w) (nx + 6))
    (h2 : ∀ dh' S' L H, a < 5 → hEnd S = (S', (e, (false, L))) → RQ 10 e (e, (false, L)) → H = (S' (200 + a), (S' (205 + a), L)) → DI X P (vP Q nx H) dh' → Nw X P (vP Q nx H) (nx + 6) → PE Q (vP Q nx H) → (∀ p, p < nx → dh' p = dh p) → K (some (.int (fHouse S).1)) (CS X dh' st nt t im (fHouse S).2 (w.1, nx)) (nx + 6)) : CALLA X M_FC_house d 6 137 [.ref (bA X)] (CS X dh st nt t im S w) nx K := by
  obtain ⟨d, rfl⟩ : ∃ e, d = e + 1 := ⟨d - 1, by omega⟩
  refine callA_of (by decide +kernel) (by decide) (F_FC_house X d) (Nat.le_of_ble_eq_true rfl) ?_
  have hn65 := hN.1
  by_cases c5 : a = 5
  · subst c5
    have e1 : fHouse S = (-nI 4, S) := if_pos hSa
    rw [e1] at h0
    unfold CS at h0 ⊢
    simp (disch := first | omega | rfl | (simp (disch := omega) only [vuS, vuN])) only [↓sSeq, ↓sI_f, ↓sL_f, ↓sR_f, ↓sInc_f, fE_c, eset_0, eset_1i, eset_1r, eset_1n, eset_1l, eset_ss, ↓sIf, ↓sBrk, ↓sCnt, ↓sRetI, ↓sRetL, ↓sRetR, ↓sRet, ↓sRetZ, ↓sSkip, ↓sSw, ↓sK, ↓sPop, ↓sFor_t, ↓sast, ↓sastC, ↓szst, ↓spst, ↓sput, ↓sputZ, ↓sputR, ↓sputN, ↓sputC, ↓sCopy,
    ↓xi, ↓xl, ↓xr, ↓xc, ↓xcl, ↓xadd, ↓xsub, ↓xmul, ↓xdiv, ↓xrem, ↓xand, ↓xor, ↓xxor, ↓xshl, ↓xshr, ↓xneg, ↓xaddl, ↓xsubl, ↓xmull, ↓xdivl, ↓xreml, ↓xnegl, ↓xi2l, ↓xi2c, ↓xofC, ↓xite, ↓xitel, ↓xiter, ↓xmax, ↓xmin, ↓xabs, ↓xabsl,
    ↓xg, ↓xgR, ↓xgO, ↓oR, ↓xald, ↓xzld, ↓xpld, ↓xlen, ↓xstr, ↓xinst, ↓cNot, ↓cAnd, ↓cOr, ↓cEq, ↓cLt, ↓cGt, ↓cEq0, ↓cLt0, ↓cGt0, ↓cEqL, ↓cLtL, ↓cGtL, ↓cEqO,
    ↓kI, ↓kL, ↓kR, ↓kV, ↓kS, ↓kD_e, ↓kP, ↓kT, ↓CALL_t, ↓vI, ↓vL, ↓vR, ↓aN, ↓aC, aenv_i, aenv_l, aenv_r, aenv_0, List.replicate, Nat.reduceSub, Nat.reduceAdd, eset2, kill, List.set_cons_zero, List.set_cons_succ, List.set_nil, List.getElem?_cons_zero, List.getElem?_cons_succ, List.getElem?_nil, List.mem_cons, List.not_mem_nil, or_false, or_true, true_and, and_true, true_or, false_or, false_and, and_false, not_false_eq_true, not_true_eq_false, forall_const, false_imp_iff, imp_false, true_imp_iff, if_true, if_false, implies_true, reduceIte, reduceCtorEq,
    ↓onO_CF, ↓onO_CT, ↓onI_CT1, ↓onO_CN, ↓onI_CN1, ↓onI_CN2, ↓onI_CN3, ↓onI_CN4, ↓onI_CN5, ↓onI_CN6, ↓onI_CN7, ↓onI_CN8, ↓onO_CS, ↓onI_CS1, ↓onP_CS2, ↓onI_CS3, ↓onI_CS4, ↓onI_CS5, ↓fR_f0, ↓fR_f1, ↓fR_f2, ↓fR_f3, ↓fR_f4, ↓fR_f5, ↓fI_f6, ↓fR_f7, ↓fR_t0, ↓fI_t1, ↓fR_s0, ↓fR_s1, ↓fR_s2, ↓fR_s3, ↓fR_s4, ↓fR_s5, ↓fO_s5, ↓fI_s6, ↓fI_s7, ↓fI_s8, ↓fI_s9, ↓fR_n0, ↓fI_n1, ↓fI_n2, ↓fR_n3, ↓fR_n4, ↓fI_n5, ↓fR_n6, ↓fR_n7, ↓fR_n8, ↓fI_n9, ↓fR_n10, ↓fR_n11, ↓fI_n12,
    CHu_F, CHu_T, CHu_T1, CHu_S5, CHu_S6, CHu_S7, CHu_S8, CHu_S9, CHu_a1, CHu_a2, CHu_a3, CHu_a4, CHu_a5, CHu_N1, CHu_N2, CHu_N5, CHu_N9, CHu_N12, CHu_b1, CHu_b2, CHu_b3, CHu_b4, CHu_b5, CHu_b6, CHu_b7, CHu_b8, ffs_len, tfs_len, sfs_len, nfs_len, sl_i, vuS, vuN, vuV, fS_s, Nat.reduceLT, Nat.reduceEqDiff, Nat.le_refl,
    ↓fI_h0, ↓fI_h1, ↓fR_h2, ↓fR_h3, ↓fI_h4, ↓fR_h5, ↓fI_h6, ↓fR_h7, ↓fR_h8, ↓fI_h9, ↓fI_h10, ↓fI_p0, ↓fI_p1, ↓fR_p2, ↓fO_p3, hfs_s0, hfs_s1, hfs_s4, hfs_s6, hfs_s8, hfs_s9, hfs_s10, hfs_len, pfs_len, pfs_s3, Nat.reduceLT, Nat.reduceEqDiff, nI_add, nI_mulN, lit32, nI_clamp, vp_in_nI, nI_ltI, nI_eq, nI_leI, Nat.reduceMul, Nat.zero_add, Nat.add_zero, ↓xNew, ↓xNewI, ↓xNewZ, ↓xNewP, ↓sObj, ↓kVA, ↓kSA, ↓sCtor, ↓sRetR, ↓CALLA_t, rmOf, Nat.reduceLeDiff, Nat.not_lt_zero, ↓onO_us, ↓onO_un2, List.length_cons, List.length_nil, B_FC_house, M_FC_house, hSa]
    exact h0 rfl
  · have ha5 : a < 5 := by omega
    have a5 : (a < 5) = True := eq_true ha5
    unfold CS
    simp (disch := first | omega | rfl | (simp (disch := omega) only [vuS, vuN])) only [↓sSeq, ↓sI_f, ↓sL_f, ↓sR_f, ↓sInc_f, fE_c, eset_0, eset_1i, eset_1r, eset_1n, eset_1l, eset_ss, ↓sIf, ↓sBrk, ↓sCnt, ↓sRetI, ↓sRetL, ↓sRetR, ↓sRet, ↓sRetZ, ↓sSkip, ↓sSw, ↓sK, ↓sPop, ↓sFor_t, ↓sast, ↓sastC, ↓szst, ↓spst, ↓sput, ↓sputZ, ↓sputR, ↓sputN, ↓sputC, ↓sCopy,
    ↓xi, ↓xl, ↓xr, ↓xc, ↓xcl, ↓xadd, ↓xsub, ↓xmul, ↓xdiv, ↓xrem, ↓xand, ↓xor, ↓xxor, ↓xshl, ↓xshr, ↓xneg, ↓xaddl, ↓xsubl, ↓xmull, ↓xdivl, ↓xreml, ↓xnegl, ↓xi2l, ↓xi2c, ↓xofC, ↓xite, ↓xitel, ↓xiter, ↓xmax, ↓xmin, ↓xabs, ↓xabsl,
    ↓xg, ↓xgR, ↓xgO, ↓oR, ↓xald, ↓xzld, ↓xpld, ↓xlen, ↓xstr, ↓xinst, ↓cNot, ↓cAnd, ↓cOr, ↓cEq, ↓cLt, ↓cGt, ↓cEq0, ↓cLt0, ↓cGt0, ↓cEqL, ↓cLtL, ↓cGtL, ↓cEqO,
    ↓kI, ↓kL, ↓kR, ↓kV, ↓kS, ↓kD_e, ↓kP, ↓kT, ↓CALL_t, ↓vI, ↓vL, ↓vR, ↓aN, ↓aC, aenv_i, aenv_l, aenv_r, aenv_0, List.replicate, Nat.reduceSub, Nat.reduceAdd, eset2, kill, List.set_cons_zero, List.set_cons_succ, List.set_nil, List.getElem?_cons_zero, List.getElem?_cons_succ, List.getElem?_nil, List.mem_cons, List.not_mem_nil, or_false, or_true, true_and, and_true, true_or, false_or, false_and, and_false, not_false_eq_true, not_true_eq_false, forall_const, false_imp_iff, imp_false, true_imp_iff, if_true, if_false, implies_true, reduceIte, reduceCtorEq,
    ↓onO_CF, ↓onO_CT, ↓onI_CT1, ↓onO_CN, ↓onI_CN1, ↓onI_CN2, ↓onI_CN3, ↓onI_CN4, ↓onI_CN5, ↓onI_CN6, ↓onI_CN7, ↓onI_CN8, ↓onO_CS, ↓onI_CS1, ↓onP_CS2, ↓onI_CS3, ↓onI_CS4, ↓onI_CS5, ↓fR_f0, ↓fR_f1, ↓fR_f2, ↓fR_f3, ↓fR_f4, ↓fR_f5, ↓fI_f6, ↓fR_f7, ↓fR_t0, ↓fI_t1, ↓fR_s0, ↓fR_s1, ↓fR_s2, ↓fR_s3, ↓fR_s4, ↓fR_s5, ↓fO_s5, ↓fI_s6, ↓fI_s7, ↓fI_s8, ↓fI_s9, ↓fR_n0, ↓fI_n1, ↓fI_n2, ↓fR_n3, ↓fR_n4, ↓fI_n5, ↓fR_n6, ↓fR_n7, ↓fR_n8, ↓fI_n9, ↓fR_n10, ↓fR_n11, ↓fI_n12,
    CHu_F, CHu_T, CHu_T1, CHu_S5, CHu_S6, CHu_S7, CHu_S8, CHu_S9, CHu_a1, CHu_a2, CHu_a3, CHu_a4, CHu_a5, CHu_N1, CHu_N2, CHu_N5, CHu_N9, CHu_N12, CHu_b1, CHu_b2, CHu_b3, CHu_b4, CHu_b5, CHu_b6, CHu_b7, CHu_b8, ffs_len, tfs_len, sfs_len, nfs_len, sl_i, vuS, vuN, vuV, fS_s, Nat.reduceLT, Nat.reduceEqDiff, Nat.le_refl,
    ↓fI_h0, ↓fI_h1, ↓fR_h2, ↓fR_h3, ↓fI_h4, ↓fR_h5, ↓fI_h6, ↓fR_h7, ↓fR_h8, ↓fI_h9, ↓fI_h10, ↓fI_p0, ↓fI_p1, ↓fR_p2, ↓fO_p3, hfs_s0, hfs_s1, hfs_s4, hfs_s6, hfs_s8, hfs_s9, hfs_s10, hfs_len, pfs_len, pfs_s3, Nat.reduceLT, Nat.reduceEqDiff, nI_add, nI_mulN, lit32, nI_clamp, vp_in_nI, nI_ltI, nI_eq, nI_leI, Nat.reduceMul, Nat.zero_add, Nat.add_zero, ↓xNew, ↓xNewI, ↓xNewZ, ↓xNewP, ↓sObj, ↓kVA, ↓kSA, ↓sCtor, ↓sRetR, ↓CALLA_t, rmOf, Nat.reduceLeDiff, Nat.not_lt_zero, ↓onO_us, ↓onO_un2, List.length_cons, List.length_nil, B_FC_house, M_FC_house, hSa, a5]
    refine t_houseI (by omega) up_s ⟨rfl, ?_⟩
    have eR : RH X (up (up (CH X dh (va_up st 0 (S, w)) (va_up nt 0 S) t im) nx (ob 3 z_House)) (nx + 5) (iA X 0 (fun _ => 0))) nx (nx + 5) (fun _ => 0) 0 (nI 3) (nI 1) (0, (false, [])) = CH X (HH X dh nx (nx + 5) 0 (nI 3) (nI 1) (0, (false, []))) (va_up st 0 (S, w)) (va_up nt 0 S) t im := by
      rw [CH_upD (Or.inr hn65), CH_upD (Or.inr (by omega)), RH_CH hn65]
      congr 1
      funext p
      unfold HH RH
      by_cases z : nx ≤ p ∧ p ≤ nx + 4
      · rw [if_pos z, if_pos z]
      · rw [if_neg z, if_neg z]
        by_cases z2 : p = nx + 5
        · subst z2; rw [up_s, up_s]
        · rw [up_n z2, up_n z2, up_n (by omega)]
    rw [eR]
    have ho : ∀ (tx e' : Nat) (l ea : Int32) (q : PSt) (st' : Nat → SR) (nt' : Nat → Nat → Int32) (P' : Nat → List Value → Prop), onO (CH X (HH X dh nx tx e' l ea q) st' nt' t im nx) P' = P' 3 (hfs nx tx l ea (nI (cE 0 q.2.2).length) (nI (cd q.2.2).length) (nI e') (nI q.1)) := fun tx e' l ea q st' nt' P' => onO_h (by rw [CH_D (Or.inr hn65)]; exact RH_at 0 (by omega))
    obtain ⟨⟨S', ⟨s, w0, L⟩⟩, hE⟩ : ∃ z, hEnd S = z := ⟨_, rfl⟩
    have hE2 : pCl a e 9 (pClause a e (hS S a, (0, (false, [])))) = (S', (s, (w0, L))) := by
      rw [← hE]; unfold hEnd; rw [hSa, hSe, ix_nI (by omega), ix_nI (by omega)]
    have l1 : ∀ j, j < 200 → j ≠ 16 → S' j = S j := fun j a1 a2 => by have := hEnd_lo (S := S) a1 a2; rw [hE] at this; exact this
    have l2 : S' 16 = nI 0 := by have := hEnd_16 (S := S); rw [hE] at this; exact this
    simp (disch := first | omega | rfl | (simp (disch := omega) only [vuS, vuN])) only [↓sSeq, ↓sI_f, ↓sL_f, ↓sR_f, ↓sInc_f, fE_c, eset_0, eset_1i, eset_1r, eset_1n, eset_1l, eset_ss, ↓sIf, ↓sBrk, ↓sCnt, ↓sRetI, ↓sRetL, ↓sRetR, ↓sRet, ↓sRetZ, ↓sSkip, ↓sSw, ↓sK, ↓sPop, ↓sFor_t, ↓sast, ↓sastC, ↓szst, ↓spst, ↓sput, ↓sputZ, ↓sputR, ↓sputN, ↓sputC, ↓sCopy,
    ↓xi, ↓xl, ↓xr, ↓xc, ↓xcl, ↓xadd, ↓xsub, ↓xmul, ↓xdiv, ↓xrem, ↓xand, ↓xor, ↓xxor, ↓xshl, ↓xshr, ↓xneg, ↓xaddl, ↓xsubl, ↓xmull, ↓xdivl, ↓xreml, ↓xnegl, ↓xi2l, ↓xi2c, ↓xofC, ↓xite, ↓xitel, ↓xiter, ↓xmax, ↓xmin, ↓xabs, ↓xabsl,
    ↓xg, ↓xgR, ↓xgO, ↓oR, ↓xald, ↓xzld, ↓xpld, ↓xlen, ↓xstr, ↓xinst, ↓cNot, ↓cAnd, ↓cOr, ↓cEq, ↓cLt, ↓cGt, ↓cEq0, ↓cLt0, ↓cGt0, ↓cEqL, ↓cLtL, ↓cGtL, ↓cEqO,
    ↓kI, ↓kL, ↓kR, ↓kV, ↓kS, ↓kD_e, ↓kP, ↓kT, ↓CALL_t, ↓vI, ↓vL, ↓vR, ↓aN, ↓aC, aenv_i, aenv_l, aenv_r, aenv_0, List.replicate, Nat.reduceSub, Nat.reduceAdd, eset2, kill, List.set_cons_zero, List.set_cons_succ, List.set_nil, List.getElem?_cons_zero, List.getElem?_cons_succ, List.getElem?_nil, List.mem_cons, List.not_mem_nil, or_false, or_true, true_and, and_true, true_or, false_or, false_and, and_false, not_false_eq_true, not_true_eq_false, forall_const, false_imp_iff, imp_false, true_imp_iff, if_true, if_false, implies_true, reduceIte, reduceCtorEq,
    ↓onO_CF, ↓onO_CT, ↓onI_CT1, ↓onO_CN, ↓onI_CN1, ↓onI_CN2, ↓onI_CN3, ↓onI_CN4, ↓onI_CN5, ↓onI_CN6, ↓onI_CN7, ↓onI_CN8, ↓onO_CS, ↓onI_CS1, ↓onP_CS2, ↓onI_CS3, ↓onI_CS4, ↓onI_CS5, ↓fR_f0, ↓fR_f1, ↓fR_f2, ↓fR_f3, ↓fR_f4, ↓fR_f5, ↓fI_f6, ↓fR_f7, ↓fR_t0, ↓fI_t1, ↓fR_s0, ↓fR_s1, ↓fR_s2, ↓fR_s3, ↓fR_s4, ↓fR_s5, ↓fO_s5, ↓fI_s6, ↓fI_s7, ↓fI_s8, ↓fI_s9, ↓fR_n0, ↓fI_n1, ↓fI_n2, ↓fR_n3, ↓fR_n4, ↓fI_n5, ↓fR_n6, ↓fR_n7, ↓fR_n8, ↓fI_n9, ↓fR_n10, ↓fR_n11, ↓fI_n12,
    CHu_F, CHu_T, CHu_T1, CHu_S5, CHu_S6, CHu_S7, CHu_S8, CHu_S9, CHu_a1, CHu_a2, CHu_a3, CHu_a4, CHu_a5, CHu_N1, CHu_N2, CHu_N5, CHu_N9, CHu_N12, CHu_b1, CHu_b2, CHu_b3, CHu_b4, CHu_b5, CHu_b6, CHu_b7, CHu_b8, ffs_len, tfs_len, sfs_len, nfs_len, sl_i, vuS, vuN, vuV, fS_s, Nat.reduceLT, Nat.reduceEqDiff, Nat.le_refl,
    ↓fI_h0, ↓fI_h1, ↓fR_h2, ↓fR_h3, ↓fI_h4, ↓fR_h5, ↓fI_h6, ↓fR_h7, ↓fR_h8, ↓fI_h9, ↓fI_h10, ↓fI_p0, ↓fI_p1, ↓fR_p2, ↓fO_p3, hfs_s0, hfs_s1, hfs_s4, hfs_s6, hfs_s8, hfs_s9, hfs_s10, hfs_len, pfs_len, pfs_s3, Nat.reduceLT, Nat.reduceEqDiff, nI_add, nI_mulN, lit32, nI_clamp, vp_in_nI, nI_ltI, nI_eq, nI_leI, Nat.reduceMul, Nat.zero_add, Nat.add_zero, ↓xNew, ↓xNewI, ↓xNewZ, ↓xNewP, ↓sObj, ↓kVA, ↓kSA, ↓sCtor, ↓sRetR, ↓CALLA_t, rmOf, Nat.reduceLeDiff, Nat.not_lt_zero, ↓onO_us, ↓onO_un2, List.length_cons, List.length_nil, ↓ho, hSe, tape_sl]
    have hCH : HH X (CH X dh (va_up st 0 (S, w)) (va_up nt 0 S) t im) nx (nx + 5) 0 (nI 3) (nI 1) (0, (false, [])) = CH X (HH X dh nx (nx + 5) 0 (nI 3) (nI 1) (0, (false, []))) (va_up st 0 (S, w)) (va_up nt 0 S) t im := by
      unfold HH
      rw [CH_upD (Or.inr (by omega)), RH_CH hn65]
    rw [← hCH]
    have hT : tapeOK (up (CH X dh (va_up st 0 (S, w)) (va_up nt 0 S) t im) (nx + 5) (iA X 0 (fun _ => 0))) X (NB X 0 + 1) (tape S) nx := by
      have hlt : NB X 0 + 1 < nx := by unfold NB; unfold bA at hn65; omega
      refine ⟨?_, Or.inl hlt, hTp⟩
      rw [up_n (by omega), CH_N (j := 1) (by omega) (by omega), vuS]
      rfl
    refine t_readC hX hX2 hT (by omega) ha5 he hE2 (fun hR => ?_)
    rw [CH_upD (Or.inr (by omega)), RH_CH hn65]
    change (fun H : HM => _) (CH X (HH X dh nx (NB X 0 + 1) e (S' (200 + a)) (S' (205 + a)) (s, (w0, L))) (va_up st 0 (S, w)) (va_up nt 0 S) t im)
    have hD0 := hDI.h0 hN (tx := NB X 0 + 1) (e := e) (l := S' (200 + a)) (ea := S' (205 + a)) (q := (s, (w0, L)))
    have hN0 := hN.le (nx' := nx + 6) (by omega)
    by_cases c : w0 = true ∨ ¬ s = e
    · have eF := fHouse_f ha5 hSa hSe he hE c
      have hK := h1 _ S' s w0 L ha5 hE c hR hD0 hN0 (fun p hp => HH_o hp)
      rw [eF] at hK
      have hs : s ≤ e := hR.1
      rw [if_pos c]
      simp (disch := first | omega | rfl | (simp (disch := omega) only [vuS, vuN])) only [↓sSeq, ↓sI_f, ↓sL_f, ↓sR_f, ↓sInc_f, fE_c, eset_0, eset_1i, eset_1r, eset_1n, eset_1l, eset_ss, ↓sIf, ↓sBrk, ↓sCnt, ↓sRetI, ↓sRetL, ↓sRetR, ↓sRet, ↓sRetZ, ↓sSkip, ↓sSw, ↓sK, ↓sPop, ↓sFor_t, ↓sast, ↓sastC, ↓szst, ↓spst, ↓sput, ↓sputZ, ↓sputR, ↓sputN, ↓sputC, ↓sCopy,
    ↓xi, ↓xl, ↓xr, ↓xc, ↓xcl, ↓xadd, ↓xsub, ↓xmul, ↓xdiv, ↓xrem, ↓xand, ↓xor, ↓xxor, ↓xshl, ↓xshr, ↓xneg, ↓xaddl, ↓xsubl, ↓xmull, ↓xdivl, ↓xreml, ↓xnegl, ↓xi2l, ↓xi2c, ↓xofC, ↓xite, ↓xitel, ↓xiter, ↓xmax, ↓xmin, ↓xabs, ↓xabsl,
    ↓xg, ↓xgR, ↓xgO, ↓oR, ↓xald, ↓xzld, ↓xpld, ↓xlen, ↓xstr, ↓xinst, ↓cNot, ↓cAnd, ↓cOr, ↓cEq, ↓cLt, ↓cGt, ↓cEq0, ↓cLt0, ↓cGt0, ↓cEqL, ↓cLtL, ↓cGtL, ↓cEqO,
    ↓kI, ↓kL, ↓kR, ↓kV, ↓kS, ↓kD_e, ↓kP, ↓kT, ↓CALL_t, ↓vI, ↓vL, ↓vR, ↓aN, ↓aC, aenv_i, aenv_l, aenv_r, aenv_0, List.replicate, Nat.reduceSub, Nat.reduceAdd, eset2, kill, List.set_cons_zero, List.set_cons_succ, List.set_nil, List.getElem?_cons_zero, List.getElem?_cons_succ, List.getElem?_nil, List.mem_cons, List.not_mem_nil, or_false, or_true, true_and, and_true, true_or, false_or, false_and, and_false, not_false_eq_true, not_true_eq_false, forall_const, false_imp_iff, imp_false, true_imp_iff, if_true, if_false, implies_true, reduceIte, reduceCtorEq,
    ↓onO_CF, ↓onO_CT, ↓onI_CT1, ↓onO_CN, ↓onI_CN1, ↓onI_CN2, ↓onI_CN3, ↓onI_CN4, ↓onI_CN5, ↓onI_CN6, ↓onI_CN7, ↓onI_CN8, ↓onO_CS, ↓onI_CS1, ↓onP_CS2, ↓onI_CS3, ↓onI_CS4, ↓onI_CS5, ↓fR_f0, ↓fR_f1, ↓fR_f2, ↓fR_f3, ↓fR_f4, ↓fR_f5, ↓fI_f6, ↓fR_f7, ↓fR_t0, ↓fI_t1, ↓fR_s0, ↓fR_s1, ↓fR_s2, ↓fR_s3, ↓fR_s4, ↓fR_s5, ↓fO_s5, ↓fI_s6, ↓fI_s7, ↓fI_s8, ↓fI_s9, ↓fR_n0, ↓fI_n1, ↓fI_n2, ↓fR_n3, ↓fR_n4, ↓fI_n5, ↓fR_n6, ↓fR_n7, ↓fR_n8, ↓fI_n9, ↓fR_n10, ↓fR_n11, ↓fI_n12,
    CHu_F, CHu_T, CHu_T1, CHu_S5, CHu_S6, CHu_S7, CHu_S8, CHu_S9, CHu_a1, CHu_a2, CHu_a3, CHu_a4, CHu_a5, CHu_N1, CHu_N2, CHu_N5, CHu_N9, CHu_N12, CHu_b1, CHu_b2, CHu_b3, CHu_b4, CHu_b5, CHu_b6, CHu_b7, CHu_b8, ffs_len, tfs_len, sfs_len, nfs_len, sl_i, vuS, vuN, vuV, fS_s, Nat.reduceLT, Nat.reduceEqDiff, Nat.le_refl,
    ↓fI_h0, ↓fI_h1, ↓fR_h2, ↓fR_h3, ↓fI_h4, ↓fR_h5, ↓fI_h6, ↓fR_h7, ↓fR_h8, ↓fI_h9, ↓fI_h10, ↓fI_p0, ↓fI_p1, ↓fR_p2, ↓fO_p3, hfs_s0, hfs_s1, hfs_s4, hfs_s6, hfs_s8, hfs_s9, hfs_s10, hfs_len, pfs_len, pfs_s3, Nat.reduceLT, Nat.reduceEqDiff, nI_add, nI_mulN, lit32, nI_clamp, vp_in_nI, nI_ltI, nI_eq, nI_leI, Nat.reduceMul, Nat.zero_add, Nat.add_zero, ↓xNew, ↓xNewI, ↓xNewZ, ↓xNewP, ↓sObj, ↓kVA, ↓kSA, ↓sCtor, ↓sRetR, ↓CALLA_t, rmOf, Nat.reduceLeDiff, Nat.not_lt_zero, ↓onO_us, ↓onO_un2, List.length_cons, List.length_nil]
      unfold CS at hK
      rw [CH_nt (S := pS S' a L) (S' := upd S 16 (nI 0)) (by omega) (fun j a1 a2 => ?_) (fun j a1 a2 => ?_), CH_st (S := pS S' a L) (S' := S) (by omega) (fun j a1 => ?_) (fun j a1 a2 => ?_)] at hK
      · exact hK
      · rw [pS_lo (by omega), l1 j (by omega) (by omega)]
      · rw [pS_lo (by omega), l1 j (by omega) (by omega)]
      · rw [pS_lo (by omega)]
        by_cases z : j = 16
        · subst z; rw [l2, upd_s]
        · rw [upd_n z, l1 j (by omega) z]
      · rw [pS_lo (by omega), l1 j (by omega) (by omega), upd_n (by omega)]
    · have hw0 : w0 = false := by
        cases w0 with
        | true => exact absurd (Or.inl rfl) c
        | false => rfl
      have hse : s = e := Classical.byContradiction (fun z => c (Or.inr z))
      subst hw0; subst hse
      obtain ⟨r1, r2, r3⟩ := hR
      obtain ⟨r4, r5⟩ := r3 rfl
      dsimp only at r1 r2 r4 r5
      have hL : okL L := ⟨by have := r5 [] rfl; rw [List.append_nil] at this; exact this, by have := cd_le (L := L); omega, r4⟩
      obtain ⟨d1, d2, d3⟩ := hDI.newH hN (tx := NB X 0 + 1) (e := s) (l := S' (200 + a)) (ea := S' (205 + a)) (s := s) hL
      have hK := h2 _ S' L _ ha5 hE ⟨r1, r2, r3⟩ rfl d1 d2 d3 (fun p hp => HH_o hp)
      rw [fHouse_t ha5 hSa hSe he hE] at hK
      rw [if_neg c]
      simp (disch := first | omega | rfl | (simp (disch := omega) only [vuS, vuN])) only [↓sSeq, ↓sI_f, ↓sL_f, ↓sR_f, ↓sInc_f, fE_c, eset_0, eset_1i, eset_1r, eset_1n, eset_1l, eset_ss, ↓sIf, ↓sBrk, ↓sCnt, ↓sRetI, ↓sRetL, ↓sRetR, ↓sRet, ↓sRetZ, ↓sSkip, ↓sSw, ↓sK, ↓sPop, ↓sFor_t, ↓sast, ↓sastC, ↓szst, ↓spst, ↓sput, ↓sputZ, ↓sputR, ↓sputN, ↓sputC, ↓sCopy,
    ↓xi, ↓xl, ↓xr, ↓xc, ↓xcl, ↓xadd, ↓xsub, ↓xmul, ↓xdiv, ↓xrem, ↓xand, ↓xor, ↓xxor, ↓xshl, ↓xshr, ↓xneg, ↓xaddl, ↓xsubl, ↓xmull, ↓xdivl, ↓xreml, ↓xnegl, ↓xi2l, ↓xi2c, ↓xofC, ↓xite, ↓xitel, ↓xiter, ↓xmax, ↓xmin, ↓xabs, ↓xabsl,
    ↓xg, ↓xgR, ↓xgO, ↓oR, ↓xald, ↓xzld, ↓xpld, ↓xlen, ↓xstr, ↓xinst, ↓cNot, ↓cAnd, ↓cOr, ↓cEq, ↓cLt, ↓cGt, ↓cEq0, ↓cLt0, ↓cGt0, ↓cEqL, ↓cLtL, ↓cGtL, ↓cEqO,
    ↓kI, ↓kL, ↓kR, ↓kV, ↓kS, ↓kD_e, ↓kP, ↓kT, ↓CALL_t, ↓vI, ↓vL, ↓vR, ↓aN, ↓aC, aenv_i, aenv_l, aenv_r, aenv_0, List.replicate, Nat.reduceSub, Nat.reduceAdd, eset2, kill, List.set_cons_zero, List.set_cons_succ, List.set_nil, List.getElem?_cons_zero, List.getElem?_cons_succ, List.getElem?_nil, List.mem_cons, List.not_mem_nil, or_false, or_true, true_and, and_true, true_or, false_or, false_and, and_false, not_false_eq_true, not_true_eq_false, forall_const, false_imp_iff, imp_false, true_imp_iff, if_true, if_false, implies_true, reduceIte, reduceCtorEq,
    ↓onO_CF, ↓onO_CT, ↓onI_CT1, ↓onO_CN, ↓onI_CN1, ↓onI_CN2, ↓onI_CN3, ↓onI_CN4, ↓onI_CN5, ↓onI_CN6, ↓onI_CN7, ↓onI_CN8, ↓onO_CS, ↓onI_CS1, ↓onP_CS2, ↓onI_CS3, ↓onI_CS4, ↓onI_CS5, ↓fR_f0, ↓fR_f1, ↓fR_f2, ↓fR_f3, ↓fR_f4, ↓fR_f5, ↓fI_f6, ↓fR_f7, ↓fR_t0, ↓fI_t1, ↓fR_s0, ↓fR_s1, ↓fR_s2, ↓fR_s3, ↓fR_s4, ↓fR_s5, ↓fO_s5, ↓fI_s6, ↓fI_s7, ↓fI_s8, ↓fI_s9, ↓fR_n0, ↓fI_n1, ↓fI_n2, ↓fR_n3, ↓fR_n4, ↓fI_n5, ↓fR_n6, ↓fR_n7, ↓fR_n8, ↓fI_n9, ↓fR_n10, ↓fR_n11, ↓fI_n12,
    CHu_F, CHu_T, CHu_T1, CHu_S5, CHu_S6, CHu_S7, CHu_S8, CHu_S9, CHu_a1, CHu_a2, CHu_a3, CHu_a4, CHu_a5, CHu_N1, CHu_N2, CHu_N5, CHu_N9, CHu_N12, CHu_b1, CHu_b2, CHu_b3, CHu_b4, CHu_b5, CHu_b6, CHu_b7, CHu_b8, ffs_len, tfs_len, sfs_len, nfs_len, sl_i, vuS, vuN, vuV, fS_s, Nat.reduceLT, Nat.reduceEqDiff, Nat.le_refl,
    ↓fI_h0, ↓fI_h1, ↓fR_h2, ↓fR_h3, ↓fI_h4, ↓fR_h5, ↓fI_h6, ↓fR_h7, ↓fR_h8, ↓fI_h9, ↓fI_h10, ↓fI_p0, ↓fI_p1, ↓fR_p2, ↓fO_p3, hfs_s0, hfs_s1, hfs_s4, hfs_s6, hfs_s8, hfs_s9, hfs_s10, hfs_len, pfs_len, pfs_s3, Nat.reduceLT, Nat.reduceEqDiff, nI_add, nI_mulN, lit32, nI_clamp, vp_in_nI, nI_ltI, nI_eq, nI_leI, Nat.reduceMul, Nat.zero_add, Nat.add_zero, ↓xNew, ↓xNewI, ↓xNewZ, ↓xNewP, ↓sObj, ↓kVA, ↓kSA, ↓sCtor, ↓sRetR, ↓CALLA_t, rmOf, Nat.reduceLeDiff, Nat.not_lt_zero, ↓onO_us, ↓onO_un2, List.length_cons, List.length_nil, lt_m1]
      rw [upd_s, upd_n (by omega), hSa, show nI a + nI 1 - nI 1 = nI a by rw [nI_add, nI_backn]]
      dsimp only at hK
      unfold CS at hK
      rw [CH_nt (S := upd (upd (pS S' a L) 12 (nI a + nI 1)) 17 (nI a)) (S' := upd (upd S 16 (nI 0)) 12 (nI a + nI 1)) (by omega) (fun j a1 a2 => ?_) (fun j a1 a2 => ?_), CH_st (S := upd (upd (pS S' a L) 12 (nI a + nI 1)) 17 (nI a)) (S' := S) (by omega) (fun j a1 => ?_) (fun j a1 a2 => ?_)] at hK
      · exact hK
      · rw [upd_n (by omega), upd_n (by omega), pS_lo (by omega), l1 j (by omega) (by omega)]
      · rw [upd_n (by omega), upd_n (by omega), pS_lo (by omega), l1 j (by omega) (by omega)]
      · rw [upd_n (by omega)]
        by_cases z2 : j = 12
        · subst z2; rw [upd_s, upd_s]
        · rw [upd_n z2, upd_n z2, pS_lo (by omega)]
          by_cases z : j = 16
          · subst z; rw [l2, upd_s]
          · rw [upd_n z, l1 j (by omega) z]
      · rw [upd_n (by omega), upd_n (by omega), upd_n (by omega), upd_n (by omega), pS_lo (by omega), l1 j (by omega) (by omega)]
end HOUC
