section PRC
variable {X : WX} {d : Nat} {h : HM} {K : Option Value → HM → Prop} {c vals : Nat → Int32} {a tx e : Nat} {l ea : Int32}
/-- a house that is being read: its cells at a, over a heap with the tape at tx -/
def hcell (X : WX) (a tx : Nat) (vals : Nat → Int32) (e : Nat) (l ea : Int32) (q : PSt) (j : Nat) : va_E := match j with
  | 0 => ob 3 (hfs a tx l ea (nI (cE 0 q.2.2).length) (nI (cd q.2.2).length) (nI e) (nI q.1))
  | 1 => iA X 10 (lst ((cE 0 q.2.2).map (fun p => p.1)))
  | 2 => iA X 10 (lst ((cE 0 q.2.2).map (fun p => nI p.2)))
  | 3 => iA X 100 (lst (cd q.2.2))
  | _ => iA X 6 vals
def RH (X : WX) (h : HM) (a tx : Nat) (vals : Nat → Int32) (e : Nat) (l ea : Int32) (q : PSt) : HM := fun p => if a ≤ p ∧ p ≤ a + 4 then some (hcell X a tx vals e l ea q (p - a)) else h p
theorem RH_at {q : PSt} (j : Nat) (hj : j ≤ 4) : RH X h a tx vals e l ea q (a + j) = some (hcell X a tx vals e l ea q j) := by
  unfold RH
  rw [if_pos (by omega), Nat.add_sub_cancel_left]
theorem RH_o {q : PSt} {p : Nat} (hp : ¬ (a ≤ p ∧ p ≤ a + 4)) : RH X h a tx vals e l ea q p = h p := if_neg hp
theorem RH_up {q q' : PSt} {l' ea' : Int32} (k : Nat) (hk : k ≤ 4) (x : va_E) (hx : x = hcell X a tx vals e l' ea' q' k) (ho : ∀ j, j ≤ 4 → j ≠ k → hcell X a tx vals e l ea q j = hcell X a tx vals e l' ea' q' j) : up (RH X h a tx vals e l ea q) (a + k) x = RH X h a tx vals e l' ea' q' := by
  funext p
  unfold up RH
  by_cases z : p = a + k
  · subst z
    rw [if_pos rfl, if_pos (by omega), Nat.add_sub_cancel_left, hx]
  · rw [if_neg z]
    by_cases z2 : a ≤ p ∧ p ≤ a + 4
    · rw [if_pos z2, if_pos z2, ho (p - a) (by omega) (by omega)]
    · rw [if_neg z2, if_neg z2]
theorem RH_flag {s : Nat} {w w' : Bool} {L : List Int32} : RH X h a tx vals e l ea (s, (w, L)) = RH X h a tx vals e l ea (s, (w', L)) := rfl
/-- the object's own cell is written -/
theorem RH_u10 {s s' : Nat} {w : Bool} {L : List Int32} : up (RH X h a tx vals e l ea (s, (w, L))) a (ob 3 (hfs a tx l ea (nI (cE 0 L).length) (nI (cd L).length) (nI e) (nI s'))) = RH X h a tx vals e l ea (s', (w, L)) :=
  RH_up 0 (by omega) _ rfl (fun j hj hn => by match j, hj, hn with | 0, _, z => exact absurd rfl z | 1, _, _ => rfl | 2, _, _ => rfl | 3, _, _ => rfl | 4, _, _ => rfl)
theorem RH_u0 {q : PSt} {l' ea' : Int32} : up (RH X h a tx vals e l ea q) a (ob 3 (hfs a tx l' ea' (nI (cE 0 q.2.2).length) (nI (cd q.2.2).length) (nI e) (nI q.1))) = RH X h a tx vals e l' ea' q :=
  RH_up 0 (by omega) _ rfl (fun j hj hn => by match j, hj, hn with | 0, _, z => exact absurd rfl z | 1, _, _ => rfl | 2, _, _ => rfl | 3, _, _ => rfl | 4, _, _ => rfl)
/-- what the tape tells -/
def tapeOK (h : HM) (X : WX) (tx : Nat) (c : Nat → Int32) (a : Nat) : Prop := h tx = some (iA X 100 c) ∧ (tx < a ∨ a + 4 < tx) ∧ ∀ j, ∃ m, m < 128 ∧ c j = nI m
section RD
variable {q : PSt} (P : Nat → List Value → Prop) (R : Nat → (Nat → Int32) → Prop)
theorem onO_R : onO (RH X h a tx vals e l ea q a) P = P 3 (hfs a tx l ea (nI (cE 0 q.2.2).length) (nI (cd q.2.2).length) (nI e) (nI q.1)) := onO_h (RH_at 0 (by omega))
theorem onI_R1 : onI X (RH X h a tx vals e l ea q (a + 1)) R = R 10 (lst ((cE 0 q.2.2).map (fun p => p.1))) := onI_h (RH_at 1 (by omega))
theorem onI_R2 : onI X (RH X h a tx vals e l ea q (a + 2)) R = R 10 (lst ((cE 0 q.2.2).map (fun p => nI p.2))) := onI_h (RH_at 2 (by omega))
theorem onI_R3 : onI X (RH X h a tx vals e l ea q (a + 3)) R = R 100 (lst (cd q.2.2)) := onI_h (RH_at 3 (by omega))
theorem onI_Rt (hT : tapeOK h X tx c a) : onI X (RH X h a tx vals e l ea q tx) R = R 100 c := onI_h ((RH_o (by have := hT.2.1; omega)).trans hT.1)
end RD
theorem t_take (hT : tapeOK h X tx c a) (hd : 1 ≤ d) (he : e ≤ 100) {x : Int32} (hx : ¬ x = -nI 1) {q : PSt} (hq : q.1 ≤ e) (hK1 : pHere c e q.1 = x → K (some (.int (nI 1))) (RH X h a tx vals e l ea (q.1 + 1, q.2))) (hK0 : ¬ pHere c e q.1 = x → K (some (.int (nI 0))) (RH X h a tx vals e l ea q)) : CALL X M_House_take d [.ref a, .int x] (RH X h a tx vals e l ea q) K := by
  obtain ⟨s, w, L⟩ := q
  have hq : s ≤ e := hq
  unfold pHere at hK1 hK0
  dsimp only at hK1 hK0
  obtain ⟨d, rfl⟩ : ∃ e, d = e + 1 := ⟨d - 1, by omega⟩
  refine call_of (by decide +kernel) (by decide) (F_House_take X d) (Nat.le_of_ble_eq_true rfl) ?_
  intro g
  have hrt := fun R => onI_Rt (vals := vals) (e := e) (l := l) (ea := ea) (q := (s, (w, L))) (R := R) hT
  simp (disch := omega) only [↓sSeq, ↓sI_f, ↓sL_f, ↓sR_f, ↓sInc_f, fE_c, eset_0, eset_1i, eset_1r, eset_1n, eset_1l, eset_ss, ↓sIf, ↓sBrk, ↓sCnt, ↓sRetI, ↓sRetL, ↓sRetR, ↓sRet, ↓sRetZ, ↓sSkip, ↓sSw, ↓sK, ↓sPop, ↓sFor_t, ↓sast, ↓sastC, ↓szst, ↓spst, ↓sput, ↓sputZ, ↓sputR, ↓sputN, ↓sputC, ↓sCopy,
    ↓xi, ↓xl, ↓xr, ↓xc, ↓xcl, ↓xadd, ↓xsub, ↓xmul, ↓xdiv, ↓xrem, ↓xand, ↓xor, ↓xxor, ↓xshl, ↓xshr, ↓xneg, ↓xaddl, ↓xsubl, ↓xmull, ↓xdivl, ↓xreml, ↓xnegl, ↓xi2l, ↓xi2c, ↓xofC, ↓xite, ↓xitel, ↓xiter, ↓xmax, ↓xmin, ↓xabs, ↓xabsl,
    ↓xg, ↓xgR, ↓xgO, ↓oR, ↓xald, ↓xzld, ↓xpld, ↓xlen, ↓xstr, ↓xinst, ↓cNot, ↓cAnd, ↓cOr, ↓cEq, ↓cLt, ↓cGt, ↓cEq0, ↓cLt0, ↓cGt0, ↓cEqL, ↓cLtL, ↓cGtL, ↓cEqO,
    ↓kI, ↓kL, ↓kR, ↓kV, ↓kS, ↓kD_e, ↓kP, ↓kT, ↓CALL_t, ↓vI, ↓vL, ↓vR, ↓aN, ↓aC, aenv_i, aenv_l, aenv_r, aenv_0, List.replicate, Nat.reduceSub, Nat.reduceAdd, eset2, kill, List.set_cons_zero, List.set_cons_succ, List.set_nil, List.getElem?_cons_zero, List.getElem?_cons_succ, List.getElem?_nil, List.mem_cons, List.not_mem_nil, or_false, or_true, true_and, and_true, true_or, false_or, false_and, and_false, not_false_eq_true, not_true_eq_false, forall_const, false_imp_iff, imp_false, true_imp_iff, if_true, if_false, implies_true, reduceIte, reduceCtorEq,
    ↓fI_h0, ↓fI_h1, ↓fR_h2, ↓fR_h3, ↓fI_h4, ↓fR_h5, ↓fI_h6, ↓fR_h7, ↓fR_h8, ↓fI_h9, ↓fI_h10, ↓fI_p0, ↓fI_p1, ↓fR_p2, ↓fO_p3, hfs_s0, hfs_s1, hfs_s4, hfs_s6, hfs_s8, hfs_s9, hfs_s10, hfs_len, pfs_len, pfs_s3, Nat.reduceLT, Nat.reduceEqDiff, nI_add, nI_mulN, lit32, nI_clamp, vp_in_nI, nI_ltI, nI_eq, nI_leI, Nat.reduceMul, Nat.zero_add, Nat.add_zero, B_House_take, M_House_take, ↓onO_R, ↓hrt, RH_u10]
  have hin : s < e → vp_in (nI s) 100 := fun z => by simp (disch := omega) only [vp_in_nI]
  refine ⟨fun z => ⟨hin z, fun z2 => ?_, fun z2 => ?_⟩, fun z => ?_⟩
  · rw [if_pos z] at hK1
    exact hK1 z2
  · rw [if_pos z] at hK0
    exact hK0 z2
  · rw [if_neg z] at hK0
    exact hK0 (fun y => hx y.symm)
/-- what is asked of String.indexOf -/
def ixOf (x : Int32) (l : List Int32) : Int32 := match pAmong x l 0 with
  | some k => nI k
  | none => -nI 1
def StrIx (X : WX) : Prop := ∀ (i : Nat) (l : List Int32), bytS[i]? = some l → ∀ (d m : Nat), 8 ≤ d → m < 128 → ∀ (h : HM) (K : Option Value → HM → Prop), K (some (.int (ixOf (nI m) l))) h → CALL X M_JString_indexOf d [.ref (sA X i), .int (nI m)] h K
theorem jch_nI : ∀ m, m < 128 → jch (nI m) = nI m := by decide +kernel
theorem pAmong_lt {v : Int32} : ∀ {l : List Int32} {k a : Nat}, pAmong v l k = some a → k ≤ a ∧ a < k + l.length
  | [], _, _, h => by cases h
  | x :: l, k, a, h => by
    have h : (if v = x then some k else pAmong v l (k + 1)) = some a := h
    by_cases q : v = x
    · rw [if_pos q] at h; cases h; simp
    · rw [if_neg q] at h
      have := pAmong_lt h
      simp only [List.length_cons]
      omega
theorem t_oneOf (hX : StrIx X) (hT : tapeOK h X tx c a) (hd : 9 ≤ d) (he : e ≤ 100) {i : Nat} {t : List Int32} (hi : bytS[i]? = some t) (hi14 : i < 14) (ht : t.length < 20) (hm1 : pAmong (-nI 1) t 0 = none) {q : PSt} (hq : q.1 ≤ e) (h0 : pAmong (pHere c e q.1) t 0 = none → K (some (.int (-nI 1))) (RH X h a tx vals e l ea q)) (h1 : ∀ k, k < t.length → pAmong (pHere c e q.1) t 0 = some k → K (some (.int (nI k))) (RH X h a tx vals e l ea (q.1 + 1, q.2))) : CALL X M_House_takeOneOf d [.ref a, .ref (sA X i)] (RH X h a tx vals e l ea q) K := by
  obtain ⟨s, w, L⟩ := q
  have hq : s ≤ e := hq
  dsimp only at h0 h1
  obtain ⟨d, rfl⟩ : ∃ e, d = e + 1 := ⟨d - 1, by omega⟩
  refine call_of (by decide +kernel) (by decide) (F_House_takeOneOf X d) (Nat.le_of_ble_eq_true rfl) ?_
  intro g
  have hrt := fun R => onI_Rt (vals := vals) (e := e) (l := l) (ea := ea) (q := (s, (w, L))) (R := R) hT
  have hin : s < e → vp_in (nI s) 100 := fun z => by simp (disch := omega) only [vp_in_nI]
  simp (disch := omega) only [↓sSeq, ↓sI_f, ↓sL_f, ↓sR_f, ↓sInc_f, fE_c, eset_0, eset_1i, eset_1r, eset_1n, eset_1l, eset_ss, ↓sIf, ↓sBrk, ↓sCnt, ↓sRetI, ↓sRetL, ↓sRetR, ↓sRet, ↓sRetZ, ↓sSkip, ↓sSw, ↓sK, ↓sPop, ↓sFor_t, ↓sast, ↓sastC, ↓szst, ↓spst, ↓sput, ↓sputZ, ↓sputR, ↓sputN, ↓sputC, ↓sCopy,
    ↓xi, ↓xl, ↓xr, ↓xc, ↓xcl, ↓xadd, ↓xsub, ↓xmul, ↓xdiv, ↓xrem, ↓xand, ↓xor, ↓xxor, ↓xshl, ↓xshr, ↓xneg, ↓xaddl, ↓xsubl, ↓xmull, ↓xdivl, ↓xreml, ↓xnegl, ↓xi2l, ↓xi2c, ↓xofC, ↓xite, ↓xitel, ↓xiter, ↓xmax, ↓xmin, ↓xabs, ↓xabsl,
    ↓xg, ↓xgR, ↓xgO, ↓oR, ↓xald, ↓xzld, ↓xpld, ↓xlen, ↓xstr, ↓xinst, ↓cNot, ↓cAnd, ↓cOr, ↓cEq, ↓cLt, ↓cGt, ↓cEq0, ↓cLt0, ↓cGt0, ↓cEqL, ↓cLtL, ↓cGtL, ↓cEqO,
    ↓kI, ↓kL, ↓kR, ↓kV, ↓kS, ↓kD_e, ↓kP, ↓kT, ↓CALL_t, ↓vI, ↓vL, ↓vR, ↓aN, ↓aC, aenv_i, aenv_l, aenv_r, aenv_0, List.replicate, Nat.reduceSub, Nat.reduceAdd, eset2, kill, List.set_cons_zero, List.set_cons_succ, List.set_nil, List.getElem?_cons_zero, List.getElem?_cons_succ, List.getElem?_nil, List.mem_cons, List.not_mem_nil, or_false, or_true, true_and, and_true, true_or, false_or, false_and, and_false, not_false_eq_true, not_true_eq_false, forall_const, false_imp_iff, imp_false, true_imp_iff, if_true, if_false, implies_true, reduceIte, reduceCtorEq,
    ↓fI_h0, ↓fI_h1, ↓fR_h2, ↓fR_h3, ↓fI_h4, ↓fR_h5, ↓fI_h6, ↓fR_h7, ↓fR_h8, ↓fI_h9, ↓fI_h10, ↓fI_p0, ↓fI_p1, ↓fR_p2, ↓fO_p3, hfs_s0, hfs_s1, hfs_s4, hfs_s6, hfs_s8, hfs_s9, hfs_s10, hfs_len, pfs_len, pfs_s3, Nat.reduceLT, Nat.reduceEqDiff, nI_add, nI_mulN, lit32, nI_clamp, vp_in_nI, nI_ltI, nI_eq, nI_leI, Nat.reduceMul, Nat.zero_add, Nat.add_zero, B_House_takeOneOf, M_House_takeOneOf, ↓onO_R, ↓hrt]
  refine ⟨fun z => ?_, fun z => ?_⟩
  · refine ⟨hin z, ⟨i, hi14, rfl⟩, ?_⟩
    obtain ⟨m, hm, hcm⟩ := hT.2.2 s
    have ehere : pHere c e s = nI m := by unfold pHere; rw [if_pos z, hcm]
    rw [hcm, jch_nI m hm]
    refine hX i t hi d m (by omega) hm _ _ ?_
    unfold ixOf
    rw [ehere] at h0 h1
    cases hp : pAmong (nI m) t 0 with
    | none =>
      simp (disch := omega) only [↓sSeq, ↓sI_f, ↓sL_f, ↓sR_f, ↓sInc_f, fE_c, eset_0, eset_1i, eset_1r, eset_1n, eset_1l, eset_ss, ↓sIf, ↓sBrk, ↓sCnt, ↓sRetI, ↓sRetL, ↓sRetR, ↓sRet, ↓sRetZ, ↓sSkip, ↓sSw, ↓sK, ↓sPop, ↓sFor_t, ↓sast, ↓sastC, ↓szst, ↓spst, ↓sput, ↓sputZ, ↓sputR, ↓sputN, ↓sputC, ↓sCopy,
    ↓xi, ↓xl, ↓xr, ↓xc, ↓xcl, ↓xadd, ↓xsub, ↓xmul, ↓xdiv, ↓xrem, ↓xand, ↓xor, ↓xxor, ↓xshl, ↓xshr, ↓xneg, ↓xaddl, ↓xsubl, ↓xmull, ↓xdivl, ↓xreml, ↓xnegl, ↓xi2l, ↓xi2c, ↓xofC, ↓xite, ↓xitel, ↓xiter, ↓xmax, ↓xmin, ↓xabs, ↓xabsl,
    ↓xg, ↓xgR, ↓xgO, ↓oR, ↓xald, ↓xzld, ↓xpld, ↓xlen, ↓xstr, ↓xinst, ↓cNot, ↓cAnd, ↓cOr, ↓cEq, ↓cLt, ↓cGt, ↓cEq0, ↓cLt0, ↓cGt0, ↓cEqL, ↓cLtL, ↓cGtL, ↓cEqO,
    ↓kI, ↓kL, ↓kR, ↓kV, ↓kS, ↓kD_e, ↓kP, ↓kT, ↓CALL_t, ↓vI, ↓vL, ↓vR, ↓aN, ↓aC, aenv_i, aenv_l, aenv_r, aenv_0, List.replicate, Nat.reduceSub, Nat.reduceAdd, eset2, kill, List.set_cons_zero, List.set_cons_succ, List.set_nil, List.getElem?_cons_zero, List.getElem?_cons_succ, List.getElem?_nil, List.mem_cons, List.not_mem_nil, or_false, or_true, true_and, and_true, true_or, false_or, false_and, and_false, not_false_eq_true, not_true_eq_false, forall_const, false_imp_iff, imp_false, true_imp_iff, if_true, if_false, implies_true, reduceIte, reduceCtorEq,
    ↓fI_h0, ↓fI_h1, ↓fR_h2, ↓fR_h3, ↓fI_h4, ↓fR_h5, ↓fI_h6, ↓fR_h7, ↓fR_h8, ↓fI_h9, ↓fI_h10, ↓fI_p0, ↓fI_p1, ↓fR_p2, ↓fO_p3, hfs_s0, hfs_s1, hfs_s4, hfs_s6, hfs_s8, hfs_s9, hfs_s10, hfs_len, pfs_len, pfs_s3, Nat.reduceLT, Nat.reduceEqDiff, nI_add, nI_mulN, lit32, nI_clamp, vp_in_nI, nI_ltI, nI_eq, nI_leI, Nat.reduceMul, Nat.zero_add, Nat.add_zero, lt_m1, ↓onO_R, RH_u10]
      exact h0 hp
    | some k =>
      have hk := pAmong_lt hp
      simp (disch := omega) only [↓sSeq, ↓sI_f, ↓sL_f, ↓sR_f, ↓sInc_f, fE_c, eset_0, eset_1i, eset_1r, eset_1n, eset_1l, eset_ss, ↓sIf, ↓sBrk, ↓sCnt, ↓sRetI, ↓sRetL, ↓sRetR, ↓sRet, ↓sRetZ, ↓sSkip, ↓sSw, ↓sK, ↓sPop, ↓sFor_t, ↓sast, ↓sastC, ↓szst, ↓spst, ↓sput, ↓sputZ, ↓sputR, ↓sputN, ↓sputC, ↓sCopy,
    ↓xi, ↓xl, ↓xr, ↓xc, ↓xcl, ↓xadd, ↓xsub, ↓xmul, ↓xdiv, ↓xrem, ↓xand, ↓xor, ↓xxor, ↓xshl, ↓xshr, ↓xneg, ↓xaddl, ↓xsubl, ↓xmull, ↓xdivl, ↓xreml, ↓xnegl, ↓xi2l, ↓xi2c, ↓xofC, ↓xite, ↓xitel, ↓xiter, ↓xmax, ↓xmin, ↓xabs, ↓xabsl,
    ↓xg, ↓xgR, ↓xgO, ↓oR, ↓xald, ↓xzld, ↓xpld, ↓xlen, ↓xstr, ↓xinst, ↓cNot, ↓cAnd, ↓cOr, ↓cEq, ↓cLt, ↓cGt, ↓cEq0, ↓cLt0, ↓cGt0, ↓cEqL, ↓cLtL, ↓cGtL, ↓cEqO,
    ↓kI, ↓kL, ↓kR, ↓kV, ↓kS, ↓kD_e, ↓kP, ↓kT, ↓CALL_t, ↓vI, ↓vL, ↓vR, ↓aN, ↓aC, aenv_i, aenv_l, aenv_r, aenv_0, List.replicate, Nat.reduceSub, Nat.reduceAdd, eset2, kill, List.set_cons_zero, List.set_cons_succ, List.set_nil, List.getElem?_cons_zero, List.getElem?_cons_succ, List.getElem?_nil, List.mem_cons, List.not_mem_nil, or_false, or_true, true_and, and_true, true_or, false_or, false_and, and_false, not_false_eq_true, not_true_eq_false, forall_const, false_imp_iff, imp_false, true_imp_iff, if_true, if_false, implies_true, reduceIte, reduceCtorEq,
    ↓fI_h0, ↓fI_h1, ↓fR_h2, ↓fR_h3, ↓fI_h4, ↓fR_h5, ↓fI_h6, ↓fR_h7, ↓fR_h8, ↓fI_h9, ↓fI_h10, ↓fI_p0, ↓fI_p1, ↓fR_p2, ↓fO_p3, hfs_s0, hfs_s1, hfs_s4, hfs_s6, hfs_s8, hfs_s9, hfs_s10, hfs_len, pfs_len, pfs_s3, Nat.reduceLT, Nat.reduceEqDiff, nI_add, nI_mulN, lit32, nI_clamp, vp_in_nI, nI_ltI, nI_eq, nI_leI, Nat.reduceMul, Nat.zero_add, Nat.add_zero, Nat.not_lt_zero, ↓onO_R, RH_u10]
      exact h1 k (by omega) hp
  · exact h0 (by unfold pHere; rw [if_neg z]; exact hm1)
theorem addSub {x y z : Int32} : x + y - z = x + (y - z) := by rw [Int32.sub_eq_add_neg, Int32.sub_eq_add_neg, Int32.add_assoc]
/-! numbers -/
def lDig : List Int32 := [48, 49, 50, 51, 52, 53, 54, 55, 56, 57]
theorem dig_at : ∀ m, m < 128 → pAmong (nI m) lDig 0 = if 48 ≤ m ∧ m ≤ 57 then some (m - 48) else none := by decide +kernel
theorem pDig_at : ∀ m, m < 128 → pDig (nI m) = decide (48 ≤ m ∧ m ≤ 57) := by decide +kernel
theorem here_cases (hT : tapeOK h X tx c a) (s : Nat) : pHere c e s = -nI 1 ∨ ∃ m, m < 128 ∧ pHere c e s = nI m := by
  obtain ⟨m, hm, hcm⟩ := hT.2.2 s
  unfold pHere
  by_cases z : s < e
  · rw [if_pos z, hcm]; exact Or.inr ⟨m, hm, rfl⟩
  · rw [if_neg z]; exact Or.inl rfl
theorem dig_none (hT : tapeOK h X tx c a) {s : Nat} (hp : pAmong (pHere c e s) lDig 0 = none) : pDig (pHere c e s) = false := by
  rcases here_cases (e := e) hT s with q | ⟨m, hm, q⟩
  · rw [q]; decide
  · rw [q] at hp ⊢
    rw [dig_at m hm] at hp
    rw [pDig_at m hm]
    by_cases z : 48 ≤ m ∧ m ≤ 57
    · rw [if_pos z] at hp; cases hp
    · exact decide_eq_false z
theorem dig_some (hT : tapeOK h X tx c a) {s k : Nat} (hp : pAmong (pHere c e s) lDig 0 = some k) : pDig (pHere c e s) = true ∧ pHere c e s - nI 48 = nI k ∧ k < 10 := by
  rcases here_cases (e := e) hT s with q | ⟨m, hm, q⟩
  · rw [q, show pAmong (-nI 1) lDig 0 = none from by decide] at hp; cases hp
  · rw [q] at hp ⊢
    rw [dig_at m hm] at hp
    rw [pDig_at m hm]
    by_cases z : 48 ≤ m ∧ m ≤ 57
    · rw [if_pos z] at hp
      cases hp
      refine ⟨decide_eq_true z, ?_, by omega⟩
      obtain ⟨j, rfl⟩ : ∃ j, m = j + 48 := ⟨m - 48, by omega⟩
      rw [nI_backn, Nat.add_sub_cancel]
    · rw [if_neg z] at hp; cases hp
/-- the number that is read -/
theorem pFig_val (hT : tapeOK h X tx c a) {q : PSt} (hw : q.2.1 = false) : (pFig c e q).2.2.1 = true ∨ ((pFig c e q).2.2.1 = false ∧ ∃ v, v < 100 ∧ (pFig c e q).1 = nI v) := by
  obtain ⟨s, w, L⟩ := q
  cases hw
  unfold pFig
  dsimp only
  cases h1 : pAmong (pHere c e s) lDig 0 with
  | none => left; rw [if_pos (Or.inr (dig_none hT h1))]
  | some k =>
    obtain ⟨d1, d2, d3⟩ := dig_some hT h1
    right
    rw [if_neg (by rw [d1]; simp)]
    by_cases z : pDig (pHere c e (s + 1)) = true ∧ nI 0 < pHere c e s - nI 48
    · rw [if_pos z]
      cases h2 : pAmong (pHere c e (s + 1)) lDig 0 with
      | none => rw [dig_none hT h2] at z; exact absurd z.1 (by decide)
      | some k2 =>
        obtain ⟨f1, f2, f3⟩ := dig_some hT h2
        refine ⟨rfl, 10 * k + k2, by omega, ?_⟩
        rw [d2, nI_mulN, addSub, f2, nI_add]
    · rw [if_neg z]
      exact ⟨rfl, k, by omega, d2⟩
theorem t_numC (hX : StrIx X) (hT : tapeOK h X tx c a) (hd : 10 ≤ d) (he : e ≤ 100) {q : PSt} (hq : q.1 ≤ e) (hw : q.2.1 = false) (h0 : (pFig c e q).2.2.1 = true → K (some (.int (-nI 1))) (RH X h a tx vals e l ea (pFig c e q).2)) (h1 : ∀ v, v < 100 → (pFig c e q).2.2.1 = false → (pFig c e q).1 = nI v → K (some (.int (nI v))) (RH X h a tx vals e l ea (pFig c e q).2)) : CALL X M_House_takeNumber d [.ref a] (RH X h a tx vals e l ea q) K := by
  obtain ⟨s, w, L⟩ := q
  cases hw
  have hq : s ≤ e := hq
  obtain ⟨d, rfl⟩ : ∃ e, d = e + 1 := ⟨d - 1, by omega⟩
  refine call_of (by decide +kernel) (by decide) (F_House_takeNumber X d) (Nat.le_of_ble_eq_true rfl) ?_
  intro g
  simp (disch := omega) only [↓sSeq, ↓sI_f, ↓sL_f, ↓sR_f, ↓sInc_f, fE_c, eset_0, eset_1i, eset_1r, eset_1n, eset_1l, eset_ss, ↓sIf, ↓sBrk, ↓sCnt, ↓sRetI, ↓sRetL, ↓sRetR, ↓sRet, ↓sRetZ, ↓sSkip, ↓sSw, ↓sK, ↓sPop, ↓sFor_t, ↓sast, ↓sastC, ↓szst, ↓spst, ↓sput, ↓sputZ, ↓sputR, ↓sputN, ↓sputC, ↓sCopy,
    ↓xi, ↓xl, ↓xr, ↓xc, ↓xcl, ↓xadd, ↓xsub, ↓xmul, ↓xdiv, ↓xrem, ↓xand, ↓xor, ↓xxor, ↓xshl, ↓xshr, ↓xneg, ↓xaddl, ↓xsubl, ↓xmull, ↓xdivl, ↓xreml, ↓xnegl, ↓xi2l, ↓xi2c, ↓xofC, ↓xite, ↓xitel, ↓xiter, ↓xmax, ↓xmin, ↓xabs, ↓xabsl,
    ↓xg, ↓xgR, ↓xgO, ↓oR, ↓xald, ↓xzld, ↓xpld, ↓xlen, ↓xstr, ↓xinst, ↓cNot, ↓cAnd, ↓cOr, ↓cEq, ↓cLt, ↓cGt, ↓cEq0, ↓cLt0, ↓cGt0, ↓cEqL, ↓cLtL, ↓cGtL, ↓cEqO,
    ↓kI, ↓kL, ↓kR, ↓kV, ↓kS, ↓kD_e, ↓kP, ↓kT, ↓CALL_t, ↓vI, ↓vL, ↓vR, ↓aN, ↓aC, aenv_i, aenv_l, aenv_r, aenv_0, List.replicate, Nat.reduceSub, Nat.reduceAdd, eset2, kill, List.set_cons_zero, List.set_cons_succ, List.set_nil, List.getElem?_cons_zero, List.getElem?_cons_succ, List.getElem?_nil, List.mem_cons, List.not_mem_nil, or_false, or_true, true_and, and_true, true_or, false_or, false_and, and_false, not_false_eq_true, not_true_eq_false, forall_const, false_imp_iff, imp_false, true_imp_iff, if_true, if_false, implies_true, reduceIte, reduceCtorEq,
    ↓fI_h0, ↓fI_h1, ↓fR_h2, ↓fR_h3, ↓fI_h4, ↓fR_h5, ↓fI_h6, ↓fR_h7, ↓fR_h8, ↓fI_h9, ↓fI_h10, ↓fI_p0, ↓fI_p1, ↓fR_p2, ↓fO_p3, hfs_s0, hfs_s1, hfs_s4, hfs_s6, hfs_s8, hfs_s9, hfs_s10, hfs_len, pfs_len, pfs_s3, Nat.reduceLT, Nat.reduceEqDiff, nI_add, nI_mulN, lit32, nI_clamp, vp_in_nI, nI_ltI, nI_eq, nI_leI, Nat.reduceMul, Nat.zero_add, Nat.add_zero, B_House_takeNumber, M_House_takeNumber, ↓onO_R]
  refine t_oneOf (t := lDig) hX hT (by omega) he rfl (by omega) (by decide) (by decide) hq (fun hp => ?_) (fun k hk hp => ?_)
  · have e1 : pFig c e (s, (false, L)) = (nI 0, (s, (true, L))) := if_pos (Or.inr (dig_none hT hp))
    rw [e1] at h0
    have e2 : (nI 0 < -nI 1) = False := by decide
    simp (disch := omega) only [↓sSeq, ↓sI_f, ↓sL_f, ↓sR_f, ↓sInc_f, fE_c, eset_0, eset_1i, eset_1r, eset_1n, eset_1l, eset_ss, ↓sIf, ↓sBrk, ↓sCnt, ↓sRetI, ↓sRetL, ↓sRetR, ↓sRet, ↓sRetZ, ↓sSkip, ↓sSw, ↓sK, ↓sPop, ↓sFor_t, ↓sast, ↓sastC, ↓szst, ↓spst, ↓sput, ↓sputZ, ↓sputR, ↓sputN, ↓sputC, ↓sCopy,
    ↓xi, ↓xl, ↓xr, ↓xc, ↓xcl, ↓xadd, ↓xsub, ↓xmul, ↓xdiv, ↓xrem, ↓xand, ↓xor, ↓xxor, ↓xshl, ↓xshr, ↓xneg, ↓xaddl, ↓xsubl, ↓xmull, ↓xdivl, ↓xreml, ↓xnegl, ↓xi2l, ↓xi2c, ↓xofC, ↓xite, ↓xitel, ↓xiter, ↓xmax, ↓xmin, ↓xabs, ↓xabsl,
    ↓xg, ↓xgR, ↓xgO, ↓oR, ↓xald, ↓xzld, ↓xpld, ↓xlen, ↓xstr, ↓xinst, ↓cNot, ↓cAnd, ↓cOr, ↓cEq, ↓cLt, ↓cGt, ↓cEq0, ↓cLt0, ↓cGt0, ↓cEqL, ↓cLtL, ↓cGtL, ↓cEqO,
    ↓kI, ↓kL, ↓kR, ↓kV, ↓kS, ↓kD_e, ↓kP, ↓kT, ↓CALL_t, ↓vI, ↓vL, ↓vR, ↓aN, ↓aC, aenv_i, aenv_l, aenv_r, aenv_0, List.replicate, Nat.reduceSub, Nat.reduceAdd, eset2, kill, List.set_cons_zero, List.set_cons_succ, List.set_nil, List.getElem?_cons_zero, List.getElem?_cons_succ, List.getElem?_nil, List.mem_cons, List.not_mem_nil, or_false, or_true, true_and, and_true, true_or, false_or, false_and, and_false, not_false_eq_true, not_true_eq_false, forall_const, false_imp_iff, imp_false, true_imp_iff, if_true, if_false, implies_true, reduceIte, reduceCtorEq,
    ↓fI_h0, ↓fI_h1, ↓fR_h2, ↓fR_h3, ↓fI_h4, ↓fR_h5, ↓fI_h6, ↓fR_h7, ↓fR_h8, ↓fI_h9, ↓fI_h10, ↓fI_p0, ↓fI_p1, ↓fR_p2, ↓fO_p3, hfs_s0, hfs_s1, hfs_s4, hfs_s6, hfs_s8, hfs_s9, hfs_s10, hfs_len, pfs_len, pfs_s3, Nat.reduceLT, Nat.reduceEqDiff, nI_add, nI_mulN, lit32, nI_clamp, vp_in_nI, nI_ltI, nI_eq, nI_leI, Nat.reduceMul, Nat.zero_add, Nat.add_zero, e2]
    exact h0 rfl
  · obtain ⟨d1, d2, d3⟩ := dig_some hT hp
    have hlt : s + 1 ≤ e := pHere_lt (c := c) (e := e) (s := s) rfl (pDig_ne d1)
    by_cases k0 : k = 0
    · subst k0
      have e1 : pFig c e (s, (false, L)) = (nI 0, (s + 1, (false, L))) := by
        unfold pFig
        dsimp only
        rw [if_neg (by rw [d1]; simp), if_neg (by rw [d2]; exact fun z => absurd z.2 (by decide)), d2]
      rw [e1] at h1
      simp (disch := omega) only [↓sSeq, ↓sI_f, ↓sL_f, ↓sR_f, ↓sInc_f, fE_c, eset_0, eset_1i, eset_1r, eset_1n, eset_1l, eset_ss, ↓sIf, ↓sBrk, ↓sCnt, ↓sRetI, ↓sRetL, ↓sRetR, ↓sRet, ↓sRetZ, ↓sSkip, ↓sSw, ↓sK, ↓sPop, ↓sFor_t, ↓sast, ↓sastC, ↓szst, ↓spst, ↓sput, ↓sputZ, ↓sputR, ↓sputN, ↓sputC, ↓sCopy,
    ↓xi, ↓xl, ↓xr, ↓xc, ↓xcl, ↓xadd, ↓xsub, ↓xmul, ↓xdiv, ↓xrem, ↓xand, ↓xor, ↓xxor, ↓xshl, ↓xshr, ↓xneg, ↓xaddl, ↓xsubl, ↓xmull, ↓xdivl, ↓xreml, ↓xnegl, ↓xi2l, ↓xi2c, ↓xofC, ↓xite, ↓xitel, ↓xiter, ↓xmax, ↓xmin, ↓xabs, ↓xabsl,
    ↓xg, ↓xgR, ↓xgO, ↓oR, ↓xald, ↓xzld, ↓xpld, ↓xlen, ↓xstr, ↓xinst, ↓cNot, ↓cAnd, ↓cOr, ↓cEq, ↓cLt, ↓cGt, ↓cEq0, ↓cLt0, ↓cGt0, ↓cEqL, ↓cLtL, ↓cGtL, ↓cEqO,
    ↓kI, ↓kL, ↓kR, ↓kV, ↓kS, ↓kD_e, ↓kP, ↓kT, ↓CALL_t, ↓vI, ↓vL, ↓vR, ↓aN, ↓aC, aenv_i, aenv_l, aenv_r, aenv_0, List.replicate, Nat.reduceSub, Nat.reduceAdd, eset2, kill, List.set_cons_zero, List.set_cons_succ, List.set_nil, List.getElem?_cons_zero, List.getElem?_cons_succ, List.getElem?_nil, List.mem_cons, List.not_mem_nil, or_false, or_true, true_and, and_true, true_or, false_or, false_and, and_false, not_false_eq_true, not_true_eq_false, forall_const, false_imp_iff, imp_false, true_imp_iff, if_true, if_false, implies_true, reduceIte, reduceCtorEq,
    ↓fI_h0, ↓fI_h1, ↓fR_h2, ↓fR_h3, ↓fI_h4, ↓fR_h5, ↓fI_h6, ↓fR_h7, ↓fR_h8, ↓fI_h9, ↓fI_h10, ↓fI_p0, ↓fI_p1, ↓fR_p2, ↓fO_p3, hfs_s0, hfs_s1, hfs_s4, hfs_s6, hfs_s8, hfs_s9, hfs_s10, hfs_len, pfs_len, pfs_s3, Nat.reduceLT, Nat.reduceEqDiff, nI_add, nI_mulN, lit32, nI_clamp, vp_in_nI, nI_ltI, nI_eq, nI_leI, Nat.reduceMul, Nat.zero_add, Nat.add_zero]
      exact h1 0 (by omega) rfl rfl
    · have k1 : (0 < k) = True := eq_true (by omega)
      simp (disch := omega) only [↓sSeq, ↓sI_f, ↓sL_f, ↓sR_f, ↓sInc_f, fE_c, eset_0, eset_1i, eset_1r, eset_1n, eset_1l, eset_ss, ↓sIf, ↓sBrk, ↓sCnt, ↓sRetI, ↓sRetL, ↓sRetR, ↓sRet, ↓sRetZ, ↓sSkip, ↓sSw, ↓sK, ↓sPop, ↓sFor_t, ↓sast, ↓sastC, ↓szst, ↓spst, ↓sput, ↓sputZ, ↓sputR, ↓sputN, ↓sputC, ↓sCopy,
    ↓xi, ↓xl, ↓xr, ↓xc, ↓xcl, ↓xadd, ↓xsub, ↓xmul, ↓xdiv, ↓xrem, ↓xand, ↓xor, ↓xxor, ↓xshl, ↓xshr, ↓xneg, ↓xaddl, ↓xsubl, ↓xmull, ↓xdivl, ↓xreml, ↓xnegl, ↓xi2l, ↓xi2c, ↓xofC, ↓xite, ↓xitel, ↓xiter, ↓xmax, ↓xmin, ↓xabs, ↓xabsl,
    ↓xg, ↓xgR, ↓xgO, ↓oR, ↓xald, ↓xzld, ↓xpld, ↓xlen, ↓xstr, ↓xinst, ↓cNot, ↓cAnd, ↓cOr, ↓cEq, ↓cLt, ↓cGt, ↓cEq0, ↓cLt0, ↓cGt0, ↓cEqL, ↓cLtL, ↓cGtL, ↓cEqO,
    ↓kI, ↓kL, ↓kR, ↓kV, ↓kS, ↓kD_e, ↓kP, ↓kT, ↓CALL_t, ↓vI, ↓vL, ↓vR, ↓aN, ↓aC, aenv_i, aenv_l, aenv_r, aenv_0, List.replicate, Nat.reduceSub, Nat.reduceAdd, eset2, kill, List.set_cons_zero, List.set_cons_succ, List.set_nil, List.getElem?_cons_zero, List.getElem?_cons_succ, List.getElem?_nil, List.mem_cons, List.not_mem_nil, or_false, or_true, true_and, and_true, true_or, false_or, false_and, and_false, not_false_eq_true, not_true_eq_false, forall_const, false_imp_iff, imp_false, true_imp_iff, if_true, if_false, implies_true, reduceIte, reduceCtorEq,
    ↓fI_h0, ↓fI_h1, ↓fR_h2, ↓fR_h3, ↓fI_h4, ↓fR_h5, ↓fI_h6, ↓fR_h7, ↓fR_h8, ↓fI_h9, ↓fI_h10, ↓fI_p0, ↓fI_p1, ↓fR_p2, ↓fO_p3, hfs_s0, hfs_s1, hfs_s4, hfs_s6, hfs_s8, hfs_s9, hfs_s10, hfs_len, pfs_len, pfs_s3, Nat.reduceLT, Nat.reduceEqDiff, nI_add, nI_mulN, lit32, nI_clamp, vp_in_nI, nI_ltI, nI_eq, nI_leI, Nat.reduceMul, Nat.zero_add, Nat.add_zero, k1, ↓onO_R]
      refine t_oneOf (t := lDig) (q := (s + 1, (false, L))) hX hT (by omega) he rfl (by omega) (by decide) (by decide) hlt (fun hp2 => ?_) (fun k2 hk2 hp2 => ?_)
      · have e1 : pFig c e (s, (false, L)) = (nI k, (s + 1, (false, L))) := by
          unfold pFig
          dsimp only
          rw [if_neg (by rw [d1]; simp), if_neg (by rw [dig_none hT hp2]; exact fun z => Bool.noConfusion z.1), d2]
        rw [e1] at h1
        simp (disch := omega) only [↓sSeq, ↓sI_f, ↓sL_f, ↓sR_f, ↓sInc_f, fE_c, eset_0, eset_1i, eset_1r, eset_1n, eset_1l, eset_ss, ↓sIf, ↓sBrk, ↓sCnt, ↓sRetI, ↓sRetL, ↓sRetR, ↓sRet, ↓sRetZ, ↓sSkip, ↓sSw, ↓sK, ↓sPop, ↓sFor_t, ↓sast, ↓sastC, ↓szst, ↓spst, ↓sput, ↓sputZ, ↓sputR, ↓sputN, ↓sputC, ↓sCopy,
    ↓xi, ↓xl, ↓xr, ↓xc, ↓xcl, ↓xadd, ↓xsub, ↓xmul, ↓xdiv, ↓xrem, ↓xand, ↓xor, ↓xxor, ↓xshl, ↓xshr, ↓xneg, ↓xaddl, ↓xsubl, ↓xmull, ↓xdivl, ↓xreml, ↓xnegl, ↓xi2l, ↓xi2c, ↓xofC, ↓xite, ↓xitel, ↓xiter, ↓xmax, ↓xmin, ↓xabs, ↓xabsl,
    ↓xg, ↓xgR, ↓xgO, ↓oR, ↓xald, ↓xzld, ↓xpld, ↓xlen, ↓xstr, ↓xinst, ↓cNot, ↓cAnd, ↓cOr, ↓cEq, ↓cLt, ↓cGt, ↓cEq0, ↓cLt0, ↓cGt0, ↓cEqL, ↓cLtL, ↓cGtL, ↓cEqO,
    ↓kI, ↓kL, ↓kR, ↓kV, ↓kS, ↓kD_e, ↓kP, ↓kT, ↓CALL_t, ↓vI, ↓vL, ↓vR, ↓aN, ↓aC, aenv_i, aenv_l, aenv_r, aenv_0, List.replicate, Nat.reduceSub, Nat.reduceAdd, eset2, kill, List.set_cons_zero, List.set_cons_succ, List.set_nil, List.getElem?_cons_zero, List.getElem?_cons_succ, List.getElem?_nil, List.mem_cons, List.not_mem_nil, or_false, or_true, true_and, and_true, true_or, false_or, false_and, and_false, not_false_eq_true, not_true_eq_false, forall_const, false_imp_iff, imp_false, true_imp_iff, if_true, if_false, implies_true, reduceIte, reduceCtorEq,
    ↓fI_h0, ↓fI_h1, ↓fR_h2, ↓fR_h3, ↓fI_h4, ↓fR_h5, ↓fI_h6, ↓fR_h7, ↓fR_h8, ↓fI_h9, ↓fI_h10, ↓fI_p0, ↓fI_p1, ↓fR_p2, ↓fO_p3, hfs_s0, hfs_s1, hfs_s4, hfs_s6, hfs_s8, hfs_s9, hfs_s10, hfs_len, pfs_len, pfs_s3, Nat.reduceLT, Nat.reduceEqDiff, nI_add, nI_mulN, lit32, nI_clamp, vp_in_nI, nI_ltI, nI_eq, nI_leI, Nat.reduceMul, Nat.zero_add, Nat.add_zero, lt_m1]
        exact h1 k (by omega) rfl rfl
      · obtain ⟨f1, f2, f3⟩ := dig_some hT hp2
        have e1 : pFig c e (s, (false, L)) = (nI (10 * k + k2), (s + 2, (false, L))) := by
          unfold pFig
          dsimp only
          rw [if_neg (by rw [d1]; simp), if_pos ⟨f1, by rw [d2, nI_ltI (by omega) (by omega)]; omega⟩, d2, nI_mulN, addSub, f2, nI_add]
        rw [e1] at h1
        simp (disch := omega) only [↓sSeq, ↓sI_f, ↓sL_f, ↓sR_f, ↓sInc_f, fE_c, eset_0, eset_1i, eset_1r, eset_1n, eset_1l, eset_ss, ↓sIf, ↓sBrk, ↓sCnt, ↓sRetI, ↓sRetL, ↓sRetR, ↓sRet, ↓sRetZ, ↓sSkip, ↓sSw, ↓sK, ↓sPop, ↓sFor_t, ↓sast, ↓sastC, ↓szst, ↓spst, ↓sput, ↓sputZ, ↓sputR, ↓sputN, ↓sputC, ↓sCopy,
    ↓xi, ↓xl, ↓xr, ↓xc, ↓xcl, ↓xadd, ↓xsub, ↓xmul, ↓xdiv, ↓xrem, ↓xand, ↓xor, ↓xxor, ↓xshl, ↓xshr, ↓xneg, ↓xaddl, ↓xsubl, ↓xmull, ↓xdivl, ↓xreml, ↓xnegl, ↓xi2l, ↓xi2c, ↓xofC, ↓xite, ↓xitel, ↓xiter, ↓xmax, ↓xmin, ↓xabs, ↓xabsl,
    ↓xg, ↓xgR, ↓xgO, ↓oR, ↓xald, ↓xzld, ↓xpld, ↓xlen, ↓xstr, ↓xinst, ↓cNot, ↓cAnd, ↓cOr, ↓cEq, ↓cLt, ↓cGt, ↓cEq0, ↓cLt0, ↓cGt0, ↓cEqL, ↓cLtL, ↓cGtL, ↓cEqO,
    ↓kI, ↓kL, ↓kR, ↓kV, ↓kS, ↓kD_e, ↓kP, ↓kT, ↓CALL_t, ↓vI, ↓vL, ↓vR, ↓aN, ↓aC, aenv_i, aenv_l, aenv_r, aenv_0, List.replicate, Nat.reduceSub, Nat.reduceAdd, eset2, kill, List.set_cons_zero, List.set_cons_succ, List.set_nil, List.getElem?_cons_zero, List.getElem?_cons_succ, List.getElem?_nil, List.mem_cons, List.not_mem_nil, or_false, or_true, true_and, and_true, true_or, false_or, false_and, and_false, not_false_eq_true, not_true_eq_false, forall_const, false_imp_iff, imp_false, true_imp_iff, if_true, if_false, implies_true, reduceIte, reduceCtorEq,
    ↓fI_h0, ↓fI_h1, ↓fR_h2, ↓fR_h3, ↓fI_h4, ↓fR_h5, ↓fI_h6, ↓fR_h7, ↓fR_h8, ↓fI_h9, ↓fI_h10, ↓fI_p0, ↓fI_p1, ↓fR_p2, ↓fO_p3, hfs_s0, hfs_s1, hfs_s4, hfs_s6, hfs_s8, hfs_s9, hfs_s10, hfs_len, pfs_len, pfs_s3, Nat.reduceLT, Nat.reduceEqDiff, nI_add, nI_mulN, lit32, nI_clamp, vp_in_nI, nI_ltI, nI_eq, nI_leI, Nat.reduceMul, Nat.zero_add, Nat.add_zero, Nat.not_lt_zero]
        rw [Nat.mul_comm] at h1
        exact h1 (k * 10 + k2) (by omega) rfl rfl
end PRC
