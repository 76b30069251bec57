section HEV
/-! a house: its steps, as the reference has them (ends of clauses among them), and as the class has them -/
def lst (l : List Int32) : Nat → Int32 := fun j => (l[j]?).getD 0
def rT (s : Int32) : Int32 := if 0 ≤ s then nI (ix s % 8 * 300 + ix s / 8 % 4 * 100 + ix s / 32) else s
def cd : List Int32 → List Int32
  | [] => []
  | s :: t => if -10 < s then rT s :: cd t else cd t
def minu (s : Int32) : Int32 := if -200 < s then -(-10 - s) else -200 - s
def cE : Nat → List Int32 → List (Int32 × Nat)
  | _, [] => []
  | k, s :: t => if -10 < s then cE (k + 1) t else (minu s, k) :: cE k t
def okQ : Nat → List Int32 → Prop
  | n, [] => n = 0
  | n, s :: t => (∃ c, s = nI c ∧ c < 3200 ∧ c % 8 < 6 ∧ c / 8 % 4 < 3 ∧ n < 18 ∧ okQ (n + 1) t) ∨ (s = -1 ∧ 1 ≤ n ∧ okQ n t) ∨ ((s = -2 ∨ s = -3) ∧ 2 ≤ n ∧ okQ (n - 1) t) ∨ (∃ c, c < 100 ∧ (s = -10 - nI c ∨ s = -200 - nI c) ∧ n = 1 ∧ okQ 0 t)
theorem okQ_P : ∀ {l : List Int32} {n : Nat}, okQ n l → okP n l
  | [], _, h => h
  | s :: t, n, h => by
    rcases h with ⟨c, h1, h2, h3, h4, h5, h6⟩ | ⟨h1, h2, h3⟩ | ⟨h1, h2, h3⟩ | ⟨c, h1, h2, h3, h4⟩
    · exact Or.inl ⟨c, h1, by omega, h3, by omega, okQ_P h6⟩
    · exact Or.inr (Or.inl ⟨h1, h2, okQ_P h3⟩)
    · exact Or.inr (Or.inr (Or.inl ⟨h1, h2, okQ_P h3⟩))
    · exact Or.inr (Or.inr (Or.inr ⟨c, h1, h2, h3, okQ_P h4⟩))
/-- how many steps stand ahead of the first end; what stands behind it; it -/
def clz : List Int32 → Nat
  | [] => 0
  | s :: t => if -10 < s then clz t + 1 else 0
def rst : List Int32 → List Int32
  | [] => []
  | s :: t => if -10 < s then rst t else t
def hdE : List Int32 → Int32
  | [] => 0
  | s :: t => if -10 < s then hdE t else s
/-- the truth that a clause comes to -/
def tops (e : Nat → Int32) : List Int32 → List Bool → Bool
  | [], _ => false
  | s :: t, st => if 0 ≤ s then tops e t (tstOf e (ix s) :: st) else if s = -1 then (match st with
      | b :: st' => tops e t ((!b) :: st')
      | [] => false) else if -10 < s then (match st with
      | b :: a :: st' => tops e t ((if s = -2 then a && b else a || b) :: st')
      | _ => false) else (match st with
      | b :: _ => b
      | [] => false)
theorem ge_lt {s : Int32} (h : 0 ≤ s) : -10 < s := by
  apply Int32.lt_iff_toInt_lt.mpr
  have := Int32.le_iff_toInt_le.mp h
  rw [show (0 : Int32).toInt = 0 from by decide] at this
  rw [show (-10 : Int32).toInt = -10 from by decide]
  omega
/-- the four kinds of steps, and what each does -/
theorem stp_t {c : Nat} (hc : c < 3200) : (0 : Int32) ≤ nI c ∧ -10 < nI c := ⟨nI_pos' (by omega), ge_lt (nI_pos' (by omega))⟩
theorem evalR_tops {e : Nat → Int32} : ∀ {l : List Int32} {st : List Bool} {sum : Int32}, okQ st.length l → evalR e l st sum = evalR e (rst l) [] (if tops e l st then sum + minu (hdE l) else sum)
  | [], st, sum, h => by simp [evalR, rst, tops]
  | s :: t, st, sum, h => by
    rcases h with ⟨c, rfl, h2, h3, h4, h5, h6⟩ | ⟨rfl, h2, h3⟩ | ⟨h1, h2, h3⟩ | ⟨c, h1, h2, h3, h4⟩
    · rw [evalR_test (by omega)]
      have e1 : rst (nI c :: t) = rst t := if_pos (stp_t h2).2
      have e2 : hdE (nI c :: t) = hdE t := if_pos (stp_t h2).2
      have e3 : tops e (nI c :: t) st = tops e t (tstOf e c :: st) := by
        show (if (0 : Int32) ≤ nI c then tops e t (tstOf e (ix (nI c)) :: st) else _) = _
        rw [if_pos (stp_t h2).1, ix_nI (by omega)]
      rw [e1, e2, e3]
      exact evalR_tops h6
    · cases st with
      | nil => simp at h2
      | cons b st =>
        have e0 : evalR e (-1 :: t) (b :: st) sum = evalR e t ((!b) :: st) sum := by simp only [evalR, if_true]; rw [if_neg (by decide)]
        have e1 : rst (-1 :: t) = rst t := if_pos (by decide)
        have e2 : hdE (-1 :: t) = hdE t := if_pos (by decide)
        have e3 : tops e (-1 :: t) (b :: st) = tops e t ((!b) :: st) := by simp only [tops, if_true]; rw [if_neg (by decide)]
        rw [e0, e1, e2, e3]
        exact evalR_tops h3
    · cases st with
      | nil => simp at h2
      | cons b st =>
        cases st with
        | nil => simp at h2
        | cons a st =>
          have g1 : ¬ (0 : Int32) ≤ s := by rcases h1 with rfl | rfl <;> decide
          have g2 : ¬ s = -1 := by rcases h1 with rfl | rfl <;> decide
          have g3 : -10 < s := by rcases h1 with rfl | rfl <;> decide
          have e0 : evalR e (s :: t) (b :: a :: st) sum = evalR e t ((if s = -2 then a && b else a || b) :: st) sum := by
            simp only [evalR]
            rw [if_neg g1, if_neg g2, if_pos g3]
          have e1 : rst (s :: t) = rst t := if_pos g3
          have e2 : hdE (s :: t) = hdE t := if_pos g3
          have e3 : tops e (s :: t) (b :: a :: st) = tops e t ((if s = -2 then a && b else a || b) :: st) := by
            simp only [tops]
            rw [if_neg g1, if_neg g2, if_pos g3]
          rw [e0, e1, e2, e3]
          exact evalR_tops h3
    · obtain ⟨f1, f2, f3, -⟩ := end_facts h1 h2
      cases st with
      | nil => simp at h3
      | cons b st =>
        have e0 : evalR e (s :: t) (b :: st) sum = evalR e t [] (if b then (if -200 < s then sum - (-10 - s) else sum + (-200 - s)) else sum) := by
          simp only [evalR]
          rw [if_neg f1, if_neg f2, if_neg f3]
        have e1 : rst (s :: t) = t := if_neg f3
        have e2 : hdE (s :: t) = s := if_neg f3
        have e3 : tops e (s :: t) (b :: st) = b := by
          simp only [tops]
          rw [if_neg f1, if_neg f2, if_neg f3]
        rw [e0, e1, e2, e3]
        congr 1
        cases b with
        | false => rfl
        | true =>
          simp only [if_true, minu]
          split
          · rw [Int32.sub_eq_add_neg]
          · rfl
theorem okQ_rst : ∀ {l : List Int32} {n : Nat}, okQ n l → okQ 0 (rst l)
  | [], _, _ => rfl
  | s :: t, n, h => by
    rcases h with ⟨c, rfl, h2, h3, h4, h5, h6⟩ | ⟨rfl, h2, h3⟩ | ⟨h1, h2, h3⟩ | ⟨c, h1, h2, h3, h4⟩
    · rw [show rst (nI c :: t) = rst t from if_pos (stp_t h2).2]; exact okQ_rst h6
    · rw [show rst (-1 :: t) = rst t from if_pos (by decide)]; exact okQ_rst h3
    · rw [show rst (s :: t) = rst t from if_pos (by rcases h1 with rfl | rfl <;> decide)]; exact okQ_rst h3
    · rw [show rst (s :: t) = t from if_neg (end_facts h1 h2).2.2.1]; exact h4
theorem cE_rst : ∀ {l : List Int32} {n k : Nat}, okQ n l → (¬ n = 0 ∨ ¬ l = []) → cE k l = (minu (hdE l), k + clz l) :: cE (k + clz l) (rst l)
  | [], n, k, h, h2 => by
    have h : n = 0 := h
    exact absurd h2 (by simp [h])
  | s :: t, n, k, h, _ => by
    have go : -10 < s → ∀ m, ¬ m = 0 → okQ m t → cE k (s :: t) = (minu (hdE (s :: t)), k + clz (s :: t)) :: cE (k + clz (s :: t)) (rst (s :: t)) := fun g m hm hq => by
      rw [show cE k (s :: t) = cE (k + 1) t from if_pos g, show hdE (s :: t) = hdE t from if_pos g, show clz (s :: t) = clz t + 1 from if_pos g, show rst (s :: t) = rst t from if_pos g, cE_rst hq (Or.inl hm), show k + 1 + clz t = k + (clz t + 1) by omega]
    rcases h with ⟨c, rfl, h2, h3, h4, h5, h6⟩ | ⟨rfl, h2, h3⟩ | ⟨h1, h2, h3⟩ | ⟨c, h1, h2, h3, h4⟩
    · exact go (stp_t h2).2 _ (by omega) h6
    · exact go (by decide) _ (by omega) h3
    · exact go (by rcases h1 with rfl | rfl <;> decide) _ (by omega) h3
    · have f3 := (end_facts h1 h2).2.2.1
      rw [show cE k (s :: t) = (minu s, k) :: cE k t from if_neg f3, show hdE (s :: t) = s from if_neg f3, show clz (s :: t) = 0 from if_neg f3, show rst (s :: t) = t from if_neg f3, Nat.add_zero]
theorem cd_rst : ∀ {l : List Int32}, (cd l).drop (clz l) = cd (rst l)
  | [] => rfl
  | s :: t => by
    by_cases g : -10 < s
    · rw [show cd (s :: t) = rT s :: cd t from if_pos g, show clz (s :: t) = clz t + 1 from if_pos g, show rst (s :: t) = rst t from if_pos g, List.drop_succ_cons]
      exact cd_rst
    · rw [show cd (s :: t) = cd t from if_neg g, show clz (s :: t) = 0 from if_neg g, show rst (s :: t) = t from if_neg g]; rfl
theorem clz_le : ∀ {l : List Int32}, clz l ≤ (cd l).length
  | [] => Nat.le_refl _
  | s :: t => by
    by_cases g : -10 < s
    · rw [show cd (s :: t) = rT s :: cd t from if_pos g, show clz (s :: t) = clz t + 1 from if_pos g, List.length_cons]
      exact Nat.succ_le_succ clz_le
    · rw [show clz (s :: t) = 0 from if_neg g]; exact Nat.zero_le _
theorem rst_lt : ∀ {l : List Int32}, ¬ l = [] → (rst l).length < l.length
  | [], h => absurd rfl h
  | s :: t, _ => by
    by_cases g : -10 < s
    · rw [show rst (s :: t) = rst t from if_pos g, List.length_cons]
      by_cases q : t = []
      · subst q; exact Nat.succ_pos _
      · exact Nat.lt_succ_of_lt (rst_lt q)
    · rw [show rst (s :: t) = t from if_neg g]; exact Nat.lt_succ_self _
theorem negk_ne {n k : Nat} (h : n < 2 ^ 31) (h0 : 0 < k) (hk : k < 1000) : (nI n = -nI k) = False := by
  apply eq_false
  intro q
  have := congrArg Int32.toInt q
  rw [nI_toInt h, Int32.toInt_neg, nI_toInt (by omega), Int.bmod_eq_of_le (by omega) (by omega)] at this
  omega
theorem bI_eq (b : Bool) : bI b = nI b.toNat := by cases b <;> rfl
variable {X : WX} {d : Nat} {h : HM} {K : Option Value → HM → Prop}
/-- the fields of a house; of one of people (kind, number, v) -/
def hfs (b t : Nat) (l e n x y z : Int32) : List Value := [.int l, .int e, .ref (b + 1), .ref (b + 2), .int n, .ref (b + 3), .int x, .ref (b + 4), .ref t, .int y, .int z]
abbrev PD : Type := Nat × (Nat × Int32)
def pfs (a : Nat) (q : PD) (o : Option Nat) : List Value := [.int (nI q.2.1), .int q.2.2, .ref (a + 1), va_rf o]
section HFI
variable {b t : Nat} {l e n x y z w : Int32} {P : Int32 → Prop} {Q : Nat → Prop} {a : Nat} {q : PD} {o : Option Nat}
theorem fI_h0 : fI (hfs b t l e n x y z)[0]? P = P l := rfl
theorem fI_h1 : fI (hfs b t l e n x y z)[1]? P = P e := rfl
theorem fR_h2 : fR (hfs b t l e n x y z)[2]? Q = Q (b + 1) := rfl
theorem fR_h3 : fR (hfs b t l e n x y z)[3]? Q = Q (b + 2) := rfl
theorem fI_h4 : fI (hfs b t l e n x y z)[4]? P = P n := rfl
theorem fR_h5 : fR (hfs b t l e n x y z)[5]? Q = Q (b + 3) := rfl
theorem fI_h6 : fI (hfs b t l e n x y z)[6]? P = P x := rfl
theorem fR_h7 : fR (hfs b t l e n x y z)[7]? Q = Q (b + 4) := rfl
theorem fR_h8 : fR (hfs b t l e n x y z)[8]? Q = Q t := rfl
theorem fI_h9 : fI (hfs b t l e n x y z)[9]? P = P y := rfl
theorem fI_h10 : fI (hfs b t l e n x y z)[10]? P = P z := rfl
theorem hfs_s0 : (hfs b t l e n x y z).set 0 (.int w) = hfs b t w e n x y z := rfl
theorem hfs_s1 : (hfs b t l e n x y z).set 1 (.int w) = hfs b t l w n x y z := rfl
theorem hfs_s4 : (hfs b t l e n x y z).set 4 (.int w) = hfs b t l e w x y z := rfl
theorem hfs_s6 : (hfs b t l e n x y z).set 6 (.int w) = hfs b t l e n w y z := rfl
theorem hfs_s8 {t' : Nat} : (hfs b t l e n x y z).set 8 (.ref t') = hfs b t' l e n x y z := rfl
theorem hfs_s9 : (hfs b t l e n x y z).set 9 (.int w) = hfs b t l e n x w z := rfl
theorem hfs_s10 : (hfs b t l e n x y z).set 10 (.int w) = hfs b t l e n x y w := rfl
theorem hfs_len : (hfs b t l e n x y z).length = 11 := rfl
theorem fI_p0 : fI (pfs a q o)[0]? P = P (nI q.2.1) := rfl
theorem fI_p1 : fI (pfs a q o)[1]? P = P q.2.2 := rfl
theorem fR_p2 : fR (pfs a q o)[2]? Q = Q (a + 1) := rfl
theorem fO_p3 {P : Option Nat → Prop} : fO (pfs a q o)[3]? P = P o := by cases o <;> rfl
theorem pfs_s3 {b : Nat} : (pfs a q o).set 3 (.ref b) = pfs a q (some b) := rfl
theorem pfs_len : (pfs a q o).length = 4 := rfl
end HFI
theorem t_kind0 (hd : 1 ≤ d) {a : Nat} (hK : K (some (.int (nI 0))) h) : CALL X M_Person_kind d [.ref a] h K := by
  obtain ⟨d, rfl⟩ : ∃ e, d = e + 1 := ⟨d - 1, by omega⟩
  refine call_of (by decide +kernel) (by decide) (F_Person_kind X d) (Nat.le_of_ble_eq_true rfl) ?_
  intro g
  simp (disch := omega) only [↓sSeq, ↓sI_f, ↓sL_f, ↓sR_f, ↓sInc_f, fE_c, eset_0, eset_1i, eset_1r, eset_1n, eset_1l, eset_ss, ↓sIf, ↓sBrk, ↓sCnt, ↓sRetI, ↓sRetL, ↓sRetR, ↓sRet, ↓sRetZ, ↓sSkip, ↓sSw, ↓sK, ↓sPop, ↓sFor_t, ↓sast, ↓sastC, ↓szst, ↓spst, ↓sput, ↓sputZ, ↓sputR, ↓sputN, ↓sputC, ↓sCopy,
    ↓xi, ↓xl, ↓xr, ↓xc, ↓xcl, ↓xadd, ↓xsub, ↓xmul, ↓xdiv, ↓xrem, ↓xand, ↓xor, ↓xxor, ↓xshl, ↓xshr, ↓xneg, ↓xaddl, ↓xsubl, ↓xmull, ↓xdivl, ↓xreml, ↓xnegl, ↓xi2l, ↓xi2c, ↓xofC, ↓xite, ↓xitel, ↓xiter, ↓xmax, ↓xmin, ↓xabs, ↓xabsl,
    ↓xg, ↓xgR, ↓xgO, ↓oR, ↓xald, ↓xzld, ↓xpld, ↓xlen, ↓xstr, ↓xinst, ↓cNot, ↓cAnd, ↓cOr, ↓cEq, ↓cLt, ↓cGt, ↓cEq0, ↓cLt0, ↓cGt0, ↓cEqL, ↓cLtL, ↓cGtL, ↓cEqO,
    ↓kI, ↓kL, ↓kR, ↓kV, ↓kS, ↓kD_e, ↓kP, ↓kT, ↓CALL_t, ↓vI, ↓vL, ↓vR, ↓aN, ↓aC, aenv_i, aenv_l, aenv_r, aenv_0, List.replicate, Nat.reduceSub, Nat.reduceAdd, eset2, kill, List.set_cons_zero, List.set_cons_succ, List.set_nil, List.getElem?_cons_zero, List.getElem?_cons_succ, List.getElem?_nil, List.mem_cons, List.not_mem_nil, or_false, or_true, true_and, and_true, true_or, false_or, false_and, and_false, not_false_eq_true, not_true_eq_false, forall_const, false_imp_iff, imp_false, true_imp_iff, if_true, if_false, implies_true, reduceIte, reduceCtorEq,
    ↓fI_h0, ↓fI_h1, ↓fR_h2, ↓fR_h3, ↓fI_h4, ↓fR_h5, ↓fI_h6, ↓fR_h7, ↓fR_h8, ↓fI_h9, ↓fI_h10, ↓fI_p0, ↓fI_p1, ↓fR_p2, ↓fO_p3, hfs_s0, hfs_s1, hfs_s4, hfs_s6, hfs_s8, hfs_s9, hfs_s10, hfs_len, pfs_len, pfs_s3, Nat.reduceLT, Nat.reduceEqDiff, nI_add, nI_mulN, lit32, nI_clamp, vp_in_nI, nI_ltI, nI_eq, nI_leI, Nat.reduceMul, Nat.zero_add, Nat.add_zero, B_Person_kind, M_Person_kind]
  exact hK
theorem t_kind1 (hd : 1 ≤ d) {a : Nat} (hK : K (some (.int (nI 1))) h) : CALL X M_Learning_kind d [.ref a] h K := by
  obtain ⟨d, rfl⟩ : ∃ e, d = e + 1 := ⟨d - 1, by omega⟩
  refine call_of (by decide +kernel) (by decide) (F_Learning_kind X d) (Nat.le_of_ble_eq_true rfl) ?_
  intro g
  simp (disch := omega) only [↓sSeq, ↓sI_f, ↓sL_f, ↓sR_f, ↓sInc_f, fE_c, eset_0, eset_1i, eset_1r, eset_1n, eset_1l, eset_ss, ↓sIf, ↓sBrk, ↓sCnt, ↓sRetI, ↓sRetL, ↓sRetR, ↓sRet, ↓sRetZ, ↓sSkip, ↓sSw, ↓sK, ↓sPop, ↓sFor_t, ↓sast, ↓sastC, ↓szst, ↓spst, ↓sput, ↓sputZ, ↓sputR, ↓sputN, ↓sputC, ↓sCopy,
    ↓xi, ↓xl, ↓xr, ↓xc, ↓xcl, ↓xadd, ↓xsub, ↓xmul, ↓xdiv, ↓xrem, ↓xand, ↓xor, ↓xxor, ↓xshl, ↓xshr, ↓xneg, ↓xaddl, ↓xsubl, ↓xmull, ↓xdivl, ↓xreml, ↓xnegl, ↓xi2l, ↓xi2c, ↓xofC, ↓xite, ↓xitel, ↓xiter, ↓xmax, ↓xmin, ↓xabs, ↓xabsl,
    ↓xg, ↓xgR, ↓xgO, ↓oR, ↓xald, ↓xzld, ↓xpld, ↓xlen, ↓xstr, ↓xinst, ↓cNot, ↓cAnd, ↓cOr, ↓cEq, ↓cLt, ↓cGt, ↓cEq0, ↓cLt0, ↓cGt0, ↓cEqL, ↓cLtL, ↓cGtL, ↓cEqO,
    ↓kI, ↓kL, ↓kR, ↓kV, ↓kS, ↓kD_e, ↓kP, ↓kT, ↓CALL_t, ↓vI, ↓vL, ↓vR, ↓aN, ↓aC, aenv_i, aenv_l, aenv_r, aenv_0, List.replicate, Nat.reduceSub, Nat.reduceAdd, eset2, kill, List.set_cons_zero, List.set_cons_succ, List.set_nil, List.getElem?_cons_zero, List.getElem?_cons_succ, List.getElem?_nil, List.mem_cons, List.not_mem_nil, or_false, or_true, true_and, and_true, true_or, false_or, false_and, and_false, not_false_eq_true, not_true_eq_false, forall_const, false_imp_iff, imp_false, true_imp_iff, if_true, if_false, implies_true, reduceIte, reduceCtorEq,
    ↓fI_h0, ↓fI_h1, ↓fR_h2, ↓fR_h3, ↓fI_h4, ↓fR_h5, ↓fI_h6, ↓fR_h7, ↓fR_h8, ↓fI_h9, ↓fI_h10, ↓fI_p0, ↓fI_p1, ↓fR_p2, ↓fO_p3, hfs_s0, hfs_s1, hfs_s4, hfs_s6, hfs_s8, hfs_s9, hfs_s10, hfs_len, pfs_len, pfs_s3, Nat.reduceLT, Nat.reduceEqDiff, nI_add, nI_mulN, lit32, nI_clamp, vp_in_nI, nI_ltI, nI_eq, nI_leI, Nat.reduceMul, Nat.zero_add, Nat.add_zero, B_Learning_kind, M_Learning_kind]
  exact hK
theorem t_kind2 (hd : 1 ≤ d) {a : Nat} (hK : K (some (.int (nI 2))) h) : CALL X M_Off_kind d [.ref a] h K := by
  obtain ⟨d, rfl⟩ : ∃ e, d = e + 1 := ⟨d - 1, by omega⟩
  refine call_of (by decide +kernel) (by decide) (F_Off_kind X d) (Nat.le_of_ble_eq_true rfl) ?_
  intro g
  simp (disch := omega) only [↓sSeq, ↓sI_f, ↓sL_f, ↓sR_f, ↓sInc_f, fE_c, eset_0, eset_1i, eset_1r, eset_1n, eset_1l, eset_ss, ↓sIf, ↓sBrk, ↓sCnt, ↓sRetI, ↓sRetL, ↓sRetR, ↓sRet, ↓sRetZ, ↓sSkip, ↓sSw, ↓sK, ↓sPop, ↓sFor_t, ↓sast, ↓sastC, ↓szst, ↓spst, ↓sput, ↓sputZ, ↓sputR, ↓sputN, ↓sputC, ↓sCopy,
    ↓xi, ↓xl, ↓xr, ↓xc, ↓xcl, ↓xadd, ↓xsub, ↓xmul, ↓xdiv, ↓xrem, ↓xand, ↓xor, ↓xxor, ↓xshl, ↓xshr, ↓xneg, ↓xaddl, ↓xsubl, ↓xmull, ↓xdivl, ↓xreml, ↓xnegl, ↓xi2l, ↓xi2c, ↓xofC, ↓xite, ↓xitel, ↓xiter, ↓xmax, ↓xmin, ↓xabs, ↓xabsl,
    ↓xg, ↓xgR, ↓xgO, ↓oR, ↓xald, ↓xzld, ↓xpld, ↓xlen, ↓xstr, ↓xinst, ↓cNot, ↓cAnd, ↓cOr, ↓cEq, ↓cLt, ↓cGt, ↓cEq0, ↓cLt0, ↓cGt0, ↓cEqL, ↓cLtL, ↓cGtL, ↓cEqO,
    ↓kI, ↓kL, ↓kR, ↓kV, ↓kS, ↓kD_e, ↓kP, ↓kT, ↓CALL_t, ↓vI, ↓vL, ↓vR, ↓aN, ↓aC, aenv_i, aenv_l, aenv_r, aenv_0, List.replicate, Nat.reduceSub, Nat.reduceAdd, eset2, kill, List.set_cons_zero, List.set_cons_succ, List.set_nil, List.getElem?_cons_zero, List.getElem?_cons_succ, List.getElem?_nil, List.mem_cons, List.not_mem_nil, or_false, or_true, true_and, and_true, true_or, false_or, false_and, and_false, not_false_eq_true, not_true_eq_false, forall_const, false_imp_iff, imp_false, true_imp_iff, if_true, if_false, implies_true, reduceIte, reduceCtorEq,
    ↓fI_h0, ↓fI_h1, ↓fR_h2, ↓fR_h3, ↓fI_h4, ↓fR_h5, ↓fI_h6, ↓fR_h7, ↓fR_h8, ↓fI_h9, ↓fI_h10, ↓fI_p0, ↓fI_p1, ↓fR_p2, ↓fO_p3, hfs_s0, hfs_s1, hfs_s4, hfs_s6, hfs_s8, hfs_s9, hfs_s10, hfs_len, pfs_len, pfs_s3, Nat.reduceLT, Nat.reduceEqDiff, nI_add, nI_mulN, lit32, nI_clamp, vp_in_nI, nI_ltI, nI_eq, nI_leI, Nat.reduceMul, Nat.zero_add, Nat.add_zero, B_Off_kind, M_Off_kind]
  exact hK
theorem t_kind3 (hd : 1 ≤ d) {a : Nat} (hK : K (some (.int (nI 3))) h) : CALL X M_Rash_kind d [.ref a] h K := by
  obtain ⟨d, rfl⟩ : ∃ e, d = e + 1 := ⟨d - 1, by omega⟩
  refine call_of (by decide +kernel) (by decide) (F_Rash_kind X d) (Nat.le_of_ble_eq_true rfl) ?_
  intro g
  simp (disch := omega) only [↓sSeq, ↓sI_f, ↓sL_f, ↓sR_f, ↓sInc_f, fE_c, eset_0, eset_1i, eset_1r, eset_1n, eset_1l, eset_ss, ↓sIf, ↓sBrk, ↓sCnt, ↓sRetI, ↓sRetL, ↓sRetR, ↓sRet, ↓sRetZ, ↓sSkip, ↓sSw, ↓sK, ↓sPop, ↓sFor_t, ↓sast, ↓sastC, ↓szst, ↓spst, ↓sput, ↓sputZ, ↓sputR, ↓sputN, ↓sputC, ↓sCopy,
    ↓xi, ↓xl, ↓xr, ↓xc, ↓xcl, ↓xadd, ↓xsub, ↓xmul, ↓xdiv, ↓xrem, ↓xand, ↓xor, ↓xxor, ↓xshl, ↓xshr, ↓xneg, ↓xaddl, ↓xsubl, ↓xmull, ↓xdivl, ↓xreml, ↓xnegl, ↓xi2l, ↓xi2c, ↓xofC, ↓xite, ↓xitel, ↓xiter, ↓xmax, ↓xmin, ↓xabs, ↓xabsl,
    ↓xg, ↓xgR, ↓xgO, ↓oR, ↓xald, ↓xzld, ↓xpld, ↓xlen, ↓xstr, ↓xinst, ↓cNot, ↓cAnd, ↓cOr, ↓cEq, ↓cLt, ↓cGt, ↓cEq0, ↓cLt0, ↓cGt0, ↓cEqL, ↓cLtL, ↓cGtL, ↓cEqO,
    ↓kI, ↓kL, ↓kR, ↓kV, ↓kS, ↓kD_e, ↓kP, ↓kT, ↓CALL_t, ↓vI, ↓vL, ↓vR, ↓aN, ↓aC, aenv_i, aenv_l, aenv_r, aenv_0, List.replicate, Nat.reduceSub, Nat.reduceAdd, eset2, kill, List.set_cons_zero, List.set_cons_succ, List.set_nil, List.getElem?_cons_zero, List.getElem?_cons_succ, List.getElem?_nil, List.mem_cons, List.not_mem_nil, or_false, or_true, true_and, and_true, true_or, false_or, false_and, and_false, not_false_eq_true, not_true_eq_false, forall_const, false_imp_iff, imp_false, true_imp_iff, if_true, if_false, implies_true, reduceIte, reduceCtorEq,
    ↓fI_h0, ↓fI_h1, ↓fR_h2, ↓fR_h3, ↓fI_h4, ↓fR_h5, ↓fI_h6, ↓fR_h7, ↓fR_h8, ↓fI_h9, ↓fI_h10, ↓fI_p0, ↓fI_p1, ↓fR_p2, ↓fO_p3, hfs_s0, hfs_s1, hfs_s4, hfs_s6, hfs_s8, hfs_s9, hfs_s10, hfs_len, pfs_len, pfs_s3, Nat.reduceLT, Nat.reduceEqDiff, nI_add, nI_mulN, lit32, nI_clamp, vp_in_nI, nI_ltI, nI_eq, nI_leI, Nat.reduceMul, Nat.zero_add, Nat.add_zero, B_Rash_kind, M_Rash_kind]
  exact hK
theorem t_kind4 (hd : 1 ≤ d) {a : Nat} (hK : K (some (.int (nI 4))) h) : CALL X M_Wise_kind d [.ref a] h K := by
  obtain ⟨d, rfl⟩ : ∃ e, d = e + 1 := ⟨d - 1, by omega⟩
  refine call_of (by decide +kernel) (by decide) (F_Wise_kind X d) (Nat.le_of_ble_eq_true rfl) ?_
  intro g
  simp (disch := omega) only [↓sSeq, ↓sI_f, ↓sL_f, ↓sR_f, ↓sInc_f, fE_c, eset_0, eset_1i, eset_1r, eset_1n, eset_1l, eset_ss, ↓sIf, ↓sBrk, ↓sCnt, ↓sRetI, ↓sRetL, ↓sRetR, ↓sRet, ↓sRetZ, ↓sSkip, ↓sSw, ↓sK, ↓sPop, ↓sFor_t, ↓sast, ↓sastC, ↓szst, ↓spst, ↓sput, ↓sputZ, ↓sputR, ↓sputN, ↓sputC, ↓sCopy,
    ↓xi, ↓xl, ↓xr, ↓xc, ↓xcl, ↓xadd, ↓xsub, ↓xmul, ↓xdiv, ↓xrem, ↓xand, ↓xor, ↓xxor, ↓xshl, ↓xshr, ↓xneg, ↓xaddl, ↓xsubl, ↓xmull, ↓xdivl, ↓xreml, ↓xnegl, ↓xi2l, ↓xi2c, ↓xofC, ↓xite, ↓xitel, ↓xiter, ↓xmax, ↓xmin, ↓xabs, ↓xabsl,
    ↓xg, ↓xgR, ↓xgO, ↓oR, ↓xald, ↓xzld, ↓xpld, ↓xlen, ↓xstr, ↓xinst, ↓cNot, ↓cAnd, ↓cOr, ↓cEq, ↓cLt, ↓cGt, ↓cEq0, ↓cLt0, ↓cGt0, ↓cEqL, ↓cLtL, ↓cGtL, ↓cEqO,
    ↓kI, ↓kL, ↓kR, ↓kV, ↓kS, ↓kD_e, ↓kP, ↓kT, ↓CALL_t, ↓vI, ↓vL, ↓vR, ↓aN, ↓aC, aenv_i, aenv_l, aenv_r, aenv_0, List.replicate, Nat.reduceSub, Nat.reduceAdd, eset2, kill, List.set_cons_zero, List.set_cons_succ, List.set_nil, List.getElem?_cons_zero, List.getElem?_cons_succ, List.getElem?_nil, List.mem_cons, List.not_mem_nil, or_false, or_true, true_and, and_true, true_or, false_or, false_and, and_false, not_false_eq_true, not_true_eq_false, forall_const, false_imp_iff, imp_false, true_imp_iff, if_true, if_false, implies_true, reduceIte, reduceCtorEq,
    ↓fI_h0, ↓fI_h1, ↓fR_h2, ↓fR_h3, ↓fI_h4, ↓fR_h5, ↓fI_h6, ↓fR_h7, ↓fR_h8, ↓fI_h9, ↓fI_h10, ↓fI_p0, ↓fI_p1, ↓fR_p2, ↓fO_p3, hfs_s0, hfs_s1, hfs_s4, hfs_s6, hfs_s8, hfs_s9, hfs_s10, hfs_len, pfs_len, pfs_s3, Nat.reduceLT, Nat.reduceEqDiff, nI_add, nI_mulN, lit32, nI_clamp, vp_in_nI, nI_ltI, nI_eq, nI_leI, Nat.reduceMul, Nat.zero_add, Nat.add_zero, B_Wise_kind, M_Wise_kind]
  exact hK
theorem t_kind5 (hd : 1 ≤ d) {a : Nat} (hK : K (some (.int (nI 5))) h) : CALL X M_Chance_kind d [.ref a] h K := by
  obtain ⟨d, rfl⟩ : ∃ e, d = e + 1 := ⟨d - 1, by omega⟩
  refine call_of (by decide +kernel) (by decide) (F_Chance_kind X d) (Nat.le_of_ble_eq_true rfl) ?_
  intro g
  simp (disch := omega) only [↓sSeq, ↓sI_f, ↓sL_f, ↓sR_f, ↓sInc_f, fE_c, eset_0, eset_1i, eset_1r, eset_1n, eset_1l, eset_ss, ↓sIf, ↓sBrk, ↓sCnt, ↓sRetI, ↓sRetL, ↓sRetR, ↓sRet, ↓sRetZ, ↓sSkip, ↓sSw, ↓sK, ↓sPop, ↓sFor_t, ↓sast, ↓sastC, ↓szst, ↓spst, ↓sput, ↓sputZ, ↓sputR, ↓sputN, ↓sputC, ↓sCopy,
    ↓xi, ↓xl, ↓xr, ↓xc, ↓xcl, ↓xadd, ↓xsub, ↓xmul, ↓xdiv, ↓xrem, ↓xand, ↓xor, ↓xxor, ↓xshl, ↓xshr, ↓xneg, ↓xaddl, ↓xsubl, ↓xmull, ↓xdivl, ↓xreml, ↓xnegl, ↓xi2l, ↓xi2c, ↓xofC, ↓xite, ↓xitel, ↓xiter, ↓xmax, ↓xmin, ↓xabs, ↓xabsl,
    ↓xg, ↓xgR, ↓xgO, ↓oR, ↓xald, ↓xzld, ↓xpld, ↓xlen, ↓xstr, ↓xinst, ↓cNot, ↓cAnd, ↓cOr, ↓cEq, ↓cLt, ↓cGt, ↓cEq0, ↓cLt0, ↓cGt0, ↓cEqL, ↓cLtL, ↓cGtL, ↓cEqO,
    ↓kI, ↓kL, ↓kR, ↓kV, ↓kS, ↓kD_e, ↓kP, ↓kT, ↓CALL_t, ↓vI, ↓vL, ↓vR, ↓aN, ↓aC, aenv_i, aenv_l, aenv_r, aenv_0, List.replicate, Nat.reduceSub, Nat.reduceAdd, eset2, kill, List.set_cons_zero, List.set_cons_succ, List.set_nil, List.getElem?_cons_zero, List.getElem?_cons_succ, List.getElem?_nil, List.mem_cons, List.not_mem_nil, or_false, or_true, true_and, and_true, true_or, false_or, false_and, and_false, not_false_eq_true, not_true_eq_false, forall_const, false_imp_iff, imp_false, true_imp_iff, if_true, if_false, implies_true, reduceIte, reduceCtorEq,
    ↓fI_h0, ↓fI_h1, ↓fR_h2, ↓fR_h3, ↓fI_h4, ↓fR_h5, ↓fI_h6, ↓fR_h7, ↓fR_h8, ↓fI_h9, ↓fI_h10, ↓fI_p0, ↓fI_p1, ↓fR_p2, ↓fO_p3, hfs_s0, hfs_s1, hfs_s4, hfs_s6, hfs_s8, hfs_s9, hfs_s10, hfs_len, pfs_len, pfs_s3, Nat.reduceLT, Nat.reduceEqDiff, nI_add, nI_mulN, lit32, nI_clamp, vp_in_nI, nI_ltI, nI_eq, nI_leI, Nat.reduceMul, Nat.zero_add, Nat.add_zero, B_Chance_kind, M_Chance_kind]
  exact hK
theorem t_kind6 (hd : 1 ≤ d) {a : Nat} (hK : K (some (.int (nI 6))) h) : CALL X M_Told_kind d [.ref a] h K := by
  obtain ⟨d, rfl⟩ : ∃ e, d = e + 1 := ⟨d - 1, by omega⟩
  refine call_of (by decide +kernel) (by decide) (F_Told_kind X d) (Nat.le_of_ble_eq_true rfl) ?_
  intro g
  simp (disch := omega) only [↓sSeq, ↓sI_f, ↓sL_f, ↓sR_f, ↓sInc_f, fE_c, eset_0, eset_1i, eset_1r, eset_1n, eset_1l, eset_ss, ↓sIf, ↓sBrk, ↓sCnt, ↓sRetI, ↓sRetL, ↓sRetR, ↓sRet, ↓sRetZ, ↓sSkip, ↓sSw, ↓sK, ↓sPop, ↓sFor_t, ↓sast, ↓sastC, ↓szst, ↓spst, ↓sput, ↓sputZ, ↓sputR, ↓sputN, ↓sputC, ↓sCopy,
    ↓xi, ↓xl, ↓xr, ↓xc, ↓xcl, ↓xadd, ↓xsub, ↓xmul, ↓xdiv, ↓xrem, ↓xand, ↓xor, ↓xxor, ↓xshl, ↓xshr, ↓xneg, ↓xaddl, ↓xsubl, ↓xmull, ↓xdivl, ↓xreml, ↓xnegl, ↓xi2l, ↓xi2c, ↓xofC, ↓xite, ↓xitel, ↓xiter, ↓xmax, ↓xmin, ↓xabs, ↓xabsl,
    ↓xg, ↓xgR, ↓xgO, ↓oR, ↓xald, ↓xzld, ↓xpld, ↓xlen, ↓xstr, ↓xinst, ↓cNot, ↓cAnd, ↓cOr, ↓cEq, ↓cLt, ↓cGt, ↓cEq0, ↓cLt0, ↓cGt0, ↓cEqL, ↓cLtL, ↓cGtL, ↓cEqO,
    ↓kI, ↓kL, ↓kR, ↓kV, ↓kS, ↓kD_e, ↓kP, ↓kT, ↓CALL_t, ↓vI, ↓vL, ↓vR, ↓aN, ↓aC, aenv_i, aenv_l, aenv_r, aenv_0, List.replicate, Nat.reduceSub, Nat.reduceAdd, eset2, kill, List.set_cons_zero, List.set_cons_succ, List.set_nil, List.getElem?_cons_zero, List.getElem?_cons_succ, List.getElem?_nil, List.mem_cons, List.not_mem_nil, or_false, or_true, true_and, and_true, true_or, false_or, false_and, and_false, not_false_eq_true, not_true_eq_false, forall_const, false_imp_iff, imp_false, true_imp_iff, if_true, if_false, implies_true, reduceIte, reduceCtorEq,
    ↓fI_h0, ↓fI_h1, ↓fR_h2, ↓fR_h3, ↓fI_h4, ↓fR_h5, ↓fI_h6, ↓fR_h7, ↓fR_h8, ↓fI_h9, ↓fI_h10, ↓fI_p0, ↓fI_p1, ↓fR_p2, ↓fO_p3, hfs_s0, hfs_s1, hfs_s4, hfs_s6, hfs_s8, hfs_s9, hfs_s10, hfs_len, pfs_len, pfs_s3, Nat.reduceLT, Nat.reduceEqDiff, nI_add, nI_mulN, lit32, nI_clamp, vp_in_nI, nI_ltI, nI_eq, nI_leI, Nat.reduceMul, Nat.zero_add, Nat.add_zero, B_Told_kind, M_Told_kind]
  exact hK
theorem d_kind (hd : 1 ≤ d) {a : Nat} {q : PD} {fs : List Value} {t : Tag K} (hq : q.1 < 7) (ha : h a = some (ob (4 + q.1) fs)) (hK : K (some (.int (nI q.1))) h) : dsp X TG_Person_kind d a [] h K t := by
  obtain ⟨k, p⟩ := q
  have hq : k < 7 := hq
  have : k = 0 ∨ k = 1 ∨ k = 2 ∨ k = 3 ∨ k = 4 ∨ k = 5 ∨ k = 6 := by omega
  rcases this with rfl | rfl | rfl | rfl | rfl | rfl | rfl
  · exact dsp_of ha rfl (t_kind0 hd hK)
  · exact dsp_of ha rfl (t_kind1 hd hK)
  · exact dsp_of ha rfl (t_kind2 hd hK)
  · exact dsp_of ha rfl (t_kind3 hd hK)
  · exact dsp_of ha rfl (t_kind4 hd hK)
  · exact dsp_of ha rfl (t_kind5 hd hK)
  · exact dsp_of ha rfl (t_kind6 hd hK)
theorem t_holds (hd : 1 ≤ d) {b t : Nat} {l ea n x y z : Int32} {C e : Nat → Int32} (hb : h b = some (ob 3 (hfs b t l ea n x y z))) (h3 : h (b + 3) = some (iA X 100 C)) (h4 : h (b + 4) = some (iA X 6 e)) {rest : List Int32} {fm : Nat} (hok : okQ 0 rest) (hC : ∀ t s, (cd rest)[t]? = some s → C (fm + t) = s) (hlen : fm + (cd rest).length ≤ 100) (hK : K (some (.int (bI (tops e rest [])))) h) : CALL X M_House_holds d [.ref b, .int (nI fm), .int (nI (fm + clz rest))] h K := by
  have hcl := clz_le (l := rest)
  obtain ⟨d, rfl⟩ : ∃ e, d = e + 1 := ⟨d - 1, by omega⟩
  refine call_of (by decide +kernel) (by decide) (F_House_holds X d) (Nat.le_of_ble_eq_true rfl) ?_
  intro g
  simp (disch := omega) only [↓sSeq, ↓sI_f, ↓sL_f, ↓sR_f, ↓sInc_f, fE_c, eset_0, eset_1i, eset_1r, eset_1n, eset_1l, eset_ss, ↓sIf, ↓sBrk, ↓sCnt, ↓sRetI, ↓sRetL, ↓sRetR, ↓sRet, ↓sRetZ, ↓sSkip, ↓sSw, ↓sK, ↓sPop, ↓sFor_t, ↓sast, ↓sastC, ↓szst, ↓spst, ↓sput, ↓sputZ, ↓sputR, ↓sputN, ↓sputC, ↓sCopy,
    ↓xi, ↓xl, ↓xr, ↓xc, ↓xcl, ↓xadd, ↓xsub, ↓xmul, ↓xdiv, ↓xrem, ↓xand, ↓xor, ↓xxor, ↓xshl, ↓xshr, ↓xneg, ↓xaddl, ↓xsubl, ↓xmull, ↓xdivl, ↓xreml, ↓xnegl, ↓xi2l, ↓xi2c, ↓xofC, ↓xite, ↓xitel, ↓xiter, ↓xmax, ↓xmin, ↓xabs, ↓xabsl,
    ↓xg, ↓xgR, ↓xgO, ↓oR, ↓xald, ↓xzld, ↓xpld, ↓xlen, ↓xstr, ↓xinst, ↓cNot, ↓cAnd, ↓cOr, ↓cEq, ↓cLt, ↓cGt, ↓cEq0, ↓cLt0, ↓cGt0, ↓cEqL, ↓cLtL, ↓cGtL, ↓cEqO,
    ↓kI, ↓kL, ↓kR, ↓kV, ↓kS, ↓kD_e, ↓kP, ↓kT, ↓CALL_t, ↓vI, ↓vL, ↓vR, ↓aN, ↓aC, aenv_i, aenv_l, aenv_r, aenv_0, List.replicate, Nat.reduceSub, Nat.reduceAdd, eset2, kill, List.set_cons_zero, List.set_cons_succ, List.set_nil, List.getElem?_cons_zero, List.getElem?_cons_succ, List.getElem?_nil, List.mem_cons, List.not_mem_nil, or_false, or_true, true_and, and_true, true_or, false_or, false_and, and_false, not_false_eq_true, not_true_eq_false, forall_const, false_imp_iff, imp_false, true_imp_iff, if_true, if_false, implies_true, reduceIte, reduceCtorEq,
    ↓fI_h0, ↓fI_h1, ↓fR_h2, ↓fR_h3, ↓fI_h4, ↓fR_h5, ↓fI_h6, ↓fR_h7, ↓fR_h8, ↓fI_h9, ↓fI_h10, ↓fI_p0, ↓fI_p1, ↓fR_p2, ↓fO_p3, hfs_s0, hfs_s1, hfs_s4, hfs_s6, hfs_s8, hfs_s9, hfs_s10, hfs_len, pfs_len, pfs_s3, Nat.reduceLT, Nat.reduceEqDiff, nI_add, nI_mulN, lit32, nI_clamp, vp_in_nI, nI_ltI, nI_eq, nI_leI, Nat.reduceMul, Nat.zero_add, Nat.add_zero, B_House_holds, M_House_holds]
  generalize htp : tops e rest [] = fin at hK
  generalize hen : fm + clz rest = en
  have hen100 : en ≤ 100 := by omega
  refine for_rule (fun n env σ => ∃ (rest : List Int32) (st : List Bool) (j : Nat) (x5 x6 x7 x8 x9 : Option Value), n = clz rest ∧ j + clz rest = en ∧ okQ st.length rest ∧ st.length ≤ 18 ∧ tops e rest st = fin ∧ (∀ t s, (cd rest)[t]? = some s → C (j + t) = s) ∧ env = [some (.ref b), some (.int (nI fm)), some (.int (nI en)), some (.int (nI (num st))), some (.int (nI j)), x5, x6, x7, x8, x9] ∧ σ = (h, g)) (clz rest) ⟨rest, [], fm, none, none, none, none, none, rfl, hen, hok, by decide, htp, hC, rfl, rfl⟩ ?_
  clear hok hC hlen hcl htp hen rest
  rintro m env σ P ⟨rest, st, j, x5, x6, x7, x8, x9, hm, hj, hok, hle, htp, hC, rfl, rfl⟩ hP
  simp (disch := omega) only [↓sSeq, ↓sI_f, ↓sL_f, ↓sR_f, ↓sInc_f, fE_c, eset_0, eset_1i, eset_1r, eset_1n, eset_1l, eset_ss, ↓sIf, ↓sBrk, ↓sCnt, ↓sRetI, ↓sRetL, ↓sRetR, ↓sRet, ↓sRetZ, ↓sSkip, ↓sSw, ↓sK, ↓sPop, ↓sFor_t, ↓sast, ↓sastC, ↓szst, ↓spst, ↓sput, ↓sputZ, ↓sputR, ↓sputN, ↓sputC, ↓sCopy,
    ↓xi, ↓xl, ↓xr, ↓xc, ↓xcl, ↓xadd, ↓xsub, ↓xmul, ↓xdiv, ↓xrem, ↓xand, ↓xor, ↓xxor, ↓xshl, ↓xshr, ↓xneg, ↓xaddl, ↓xsubl, ↓xmull, ↓xdivl, ↓xreml, ↓xnegl, ↓xi2l, ↓xi2c, ↓xofC, ↓xite, ↓xitel, ↓xiter, ↓xmax, ↓xmin, ↓xabs, ↓xabsl,
    ↓xg, ↓xgR, ↓xgO, ↓oR, ↓xald, ↓xzld, ↓xpld, ↓xlen, ↓xstr, ↓xinst, ↓cNot, ↓cAnd, ↓cOr, ↓cEq, ↓cLt, ↓cGt, ↓cEq0, ↓cLt0, ↓cGt0, ↓cEqL, ↓cLtL, ↓cGtL, ↓cEqO,
    ↓kI, ↓kL, ↓kR, ↓kV, ↓kS, ↓kD_e, ↓kP, ↓kT, ↓CALL_t, ↓vI, ↓vL, ↓vR, ↓aN, ↓aC, aenv_i, aenv_l, aenv_r, aenv_0, List.replicate, Nat.reduceSub, Nat.reduceAdd, eset2, kill, List.set_cons_zero, List.set_cons_succ, List.set_nil, List.getElem?_cons_zero, List.getElem?_cons_succ, List.getElem?_nil, List.mem_cons, List.not_mem_nil, or_false, or_true, true_and, and_true, true_or, false_or, false_and, and_false, not_false_eq_true, not_true_eq_false, forall_const, false_imp_iff, imp_false, true_imp_iff, if_true, if_false, implies_true, reduceIte, reduceCtorEq,
    ↓fI_h0, ↓fI_h1, ↓fR_h2, ↓fR_h3, ↓fI_h4, ↓fR_h5, ↓fI_h6, ↓fR_h7, ↓fR_h8, ↓fI_h9, ↓fI_h10, ↓fI_p0, ↓fI_p1, ↓fR_p2, ↓fO_p3, hfs_s0, hfs_s1, hfs_s4, hfs_s6, hfs_s8, hfs_s9, hfs_s10, hfs_len, pfs_len, pfs_s3, Nat.reduceLT, Nat.reduceEqDiff, nI_add, nI_mulN, lit32, nI_clamp, vp_in_nI, nI_ltI, nI_eq, nI_leI, Nat.reduceMul, Nat.zero_add, Nat.add_zero]
  have exit : clz rest = 0 → (nI (num st) &&& nI 1 = nI 1) = (fin = true) := fun hz => by
    cases rest with
    | nil =>
      have : st.length = 0 := hok
      have : st = [] := List.length_eq_zero_iff.mp this
      subst this
      rw [num_nil, ← htp]
      simp [tops]
    | cons s rest =>
      rcases hok with ⟨c, rfl, h2, -⟩ | ⟨rfl, h2, -⟩ | ⟨h1, h2, -⟩ | ⟨c, h1, h2, hl, -⟩
      · rw [show clz (nI c :: rest) = clz rest + 1 from if_pos (stp_t h2).2] at hz; omega
      · rw [show clz (-1 :: rest) = clz rest + 1 from if_pos (by decide)] at hz; omega
      · rw [show clz (s :: rest) = clz rest + 1 from if_pos (by rcases h1 with rfl | rfl <;> decide)] at hz; omega
      · obtain ⟨f1, f2, f3, -⟩ := end_facts h1 h2
        cases st with
        | nil => simp at hl
        | cons c0 st =>
          have : st = [] := List.length_eq_zero_iff.mp (by simp only [List.length_cons] at hl; omega)
          subst this
          rw [num_top, ← htp]
          simp only [tops]
          rw [if_neg f1, if_neg f2, if_neg f3]
  refine ⟨fun c => ?_, fun c => ?_⟩
  · cases rest with
    | nil => exact absurd c (by simp [clz] at hj; omega)
    | cons s rest =>
      have step : -10 < s → clz (s :: rest) = clz rest + 1 := fun g => if_pos g
      have hcd : -10 < s → cd (s :: rest) = rT s :: cd rest := fun g => if_pos g
      have cj : -10 < s → C j = rT s := fun g => hC 0 _ (by rw [hcd g]; rfl)
      have fin' : -10 < s → ∀ (st' : List Bool) (x5 x6 x7 x8 x9 : Option Value), okQ st'.length rest → st'.length ≤ 18 → tops e rest st' = fin → P [some (.ref b), some (.int (nI fm)), some (.int (nI en)), some (.int (nI (num st'))), some (.int (nI (j + 1))), x5, x6, x7, x8, x9] (h, g) := fun g' st' x5 x6 x7 x8 x9 k1 k2 k3 => by
        have hs := step g'
        exact hP (clz rest) _ _ (by rw [hm, hs]) ⟨rest, st', j + 1, x5, x6, x7, x8, x9, rfl, by omega, k1, k2, k3, fun t s' ht => by rw [show j + 1 + t = j + (t + 1) by omega]; exact hC (t + 1) s' (by rw [hcd g']; exact ht), rfl, rfl⟩
      rcases hok with ⟨c1, rfl, k2, k3, k4, k5, k6⟩ | ⟨rfl, k2, k3⟩ | ⟨k1, k2, k3⟩ | ⟨c1, k1, k2, hl, -⟩
      · have g' := (stp_t k2).2
        have ec : C j = nI (c1 % 8 * 300 + c1 / 8 % 4 * 100 + c1 / 32) := by rw [cj g', rT, if_pos (stp_t k2).1, ix_nI (by omega)]
        have b1 : c1 / 32 < 100 := by omega
        generalize hw : c1 % 8 * 300 + c1 / 8 % 4 * 100 + c1 / 32 = w at ec
        have w1 : w / 300 = c1 % 8 := by omega
        have w5 : w / 100 = c1 % 8 * 3 + c1 / 8 % 4 := by omega
        have w2 : w / 100 % 3 = c1 / 8 % 4 := by omega
        have w3 : w % 100 = c1 / 32 := by omega
        have w0 : w < 3000 := by omega
        have w4 : w / 100 < 3000 := by omega
        have tp : tops e rest (tstOf e c1 :: st) = fin := by
          rw [← htp]
          show _ = (if (0 : Int32) ≤ nI c1 then tops e rest (tstOf e (ix (nI c1)) :: st) else _)
          rw [if_pos (stp_t k2).1, ix_nI (by omega)]
        have fin2 : ∀ (b9 : Bool) (x5 x6 x7 x8 x9 : Option Value), b9 = tstOf e c1 → P [some (.ref b), some (.int (nI fm)), some (.int (nI en)), some (.int (jshl (nI (num st)) (nI 1) ||| nI b9.toNat)), some (.int (nI (j + 1))), x5, x6, x7, x8, x9] (h, g) := fun b9 x5 x6 x7 x8 x9 hb9 => by
          subst hb9
          rw [num_push (by omega)]
          exact fin' g' _ _ _ _ _ _ (by simpa using k6) (by simp only [List.length_cons]; omega) tp
        simp (disch := omega) only [↓sSeq, ↓sI_f, ↓sL_f, ↓sR_f, ↓sInc_f, fE_c, eset_0, eset_1i, eset_1r, eset_1n, eset_1l, eset_ss, ↓sIf, ↓sBrk, ↓sCnt, ↓sRetI, ↓sRetL, ↓sRetR, ↓sRet, ↓sRetZ, ↓sSkip, ↓sSw, ↓sK, ↓sPop, ↓sFor_t, ↓sast, ↓sastC, ↓szst, ↓spst, ↓sput, ↓sputZ, ↓sputR, ↓sputN, ↓sputC, ↓sCopy,
    ↓xi, ↓xl, ↓xr, ↓xc, ↓xcl, ↓xadd, ↓xsub, ↓xmul, ↓xdiv, ↓xrem, ↓xand, ↓xor, ↓xxor, ↓xshl, ↓xshr, ↓xneg, ↓xaddl, ↓xsubl, ↓xmull, ↓xdivl, ↓xreml, ↓xnegl, ↓xi2l, ↓xi2c, ↓xofC, ↓xite, ↓xitel, ↓xiter, ↓xmax, ↓xmin, ↓xabs, ↓xabsl,
    ↓xg, ↓xgR, ↓xgO, ↓oR, ↓xald, ↓xzld, ↓xpld, ↓xlen, ↓xstr, ↓xinst, ↓cNot, ↓cAnd, ↓cOr, ↓cEq, ↓cLt, ↓cGt, ↓cEq0, ↓cLt0, ↓cGt0, ↓cEqL, ↓cLtL, ↓cGtL, ↓cEqO,
    ↓kI, ↓kL, ↓kR, ↓kV, ↓kS, ↓kD_e, ↓kP, ↓kT, ↓CALL_t, ↓vI, ↓vL, ↓vR, ↓aN, ↓aC, aenv_i, aenv_l, aenv_r, aenv_0, List.replicate, Nat.reduceSub, Nat.reduceAdd, eset2, kill, List.set_cons_zero, List.set_cons_succ, List.set_nil, List.getElem?_cons_zero, List.getElem?_cons_succ, List.getElem?_nil, List.mem_cons, List.not_mem_nil, or_false, or_true, true_and, and_true, true_or, false_or, false_and, and_false, not_false_eq_true, not_true_eq_false, forall_const, false_imp_iff, imp_false, true_imp_iff, if_true, if_false, implies_true, reduceIte, reduceCtorEq,
    ↓fI_h0, ↓fI_h1, ↓fR_h2, ↓fR_h3, ↓fI_h4, ↓fR_h5, ↓fI_h6, ↓fR_h7, ↓fR_h8, ↓fI_h9, ↓fI_h10, ↓fI_p0, ↓fI_p1, ↓fR_p2, ↓fO_p3, hfs_s0, hfs_s1, hfs_s4, hfs_s6, hfs_s8, hfs_s9, hfs_s10, hfs_len, pfs_len, pfs_s3, Nat.reduceLT, Nat.reduceEqDiff, nI_add, nI_mulN, lit32, nI_clamp, vp_in_nI, nI_ltI, nI_eq, nI_leI, Nat.reduceMul, Nat.zero_add, Nat.add_zero, L_House_holds_1, ↓onI_h h3, ↓onI_h h4, ↓onO_h hb, ec, negk_ne, nI_div, nI_jrem, w1, w2, w3]
        refine ⟨fun a => ⟨fun q => fin2 true _ _ _ _ _ ?_, fun q => fin2 false _ _ _ _ _ ?_⟩, fun a => ⟨fun a2 => ⟨fun q => fin2 true _ _ _ _ _ ?_, fun q => fin2 false _ _ _ _ _ ?_⟩, fun a2 => ⟨fun q => fin2 true _ _ _ _ _ ?_, fun q => fin2 false _ _ _ _ _ ?_⟩⟩⟩
        · simp [tstOf, a, q]
        · simp [tstOf, a, q]
        · simp [tstOf, a2, q]
        · simp [tstOf, a2, q]
        · simp [tstOf, a, a2, q]
        · simp [tstOf, a, a2, q]
      · have g' : (-10 : Int32) < -1 := by decide
        have ec : C j = -nI 1 := cj g'
        cases st with
        | nil => simp at k2
        | cons b0 st =>
          have tp : tops e rest ((!b0) :: st) = fin := by rw [← htp]; simp only [tops, if_true]; rw [if_neg (by decide)]
          simp (disch := omega) only [↓sSeq, ↓sI_f, ↓sL_f, ↓sR_f, ↓sInc_f, fE_c, eset_0, eset_1i, eset_1r, eset_1n, eset_1l, eset_ss, ↓sIf, ↓sBrk, ↓sCnt, ↓sRetI, ↓sRetL, ↓sRetR, ↓sRet, ↓sRetZ, ↓sSkip, ↓sSw, ↓sK, ↓sPop, ↓sFor_t, ↓sast, ↓sastC, ↓szst, ↓spst, ↓sput, ↓sputZ, ↓sputR, ↓sputN, ↓sputC, ↓sCopy,
    ↓xi, ↓xl, ↓xr, ↓xc, ↓xcl, ↓xadd, ↓xsub, ↓xmul, ↓xdiv, ↓xrem, ↓xand, ↓xor, ↓xxor, ↓xshl, ↓xshr, ↓xneg, ↓xaddl, ↓xsubl, ↓xmull, ↓xdivl, ↓xreml, ↓xnegl, ↓xi2l, ↓xi2c, ↓xofC, ↓xite, ↓xitel, ↓xiter, ↓xmax, ↓xmin, ↓xabs, ↓xabsl,
    ↓xg, ↓xgR, ↓xgO, ↓oR, ↓xald, ↓xzld, ↓xpld, ↓xlen, ↓xstr, ↓xinst, ↓cNot, ↓cAnd, ↓cOr, ↓cEq, ↓cLt, ↓cGt, ↓cEq0, ↓cLt0, ↓cGt0, ↓cEqL, ↓cLtL, ↓cGtL, ↓cEqO,
    ↓kI, ↓kL, ↓kR, ↓kV, ↓kS, ↓kD_e, ↓kP, ↓kT, ↓CALL_t, ↓vI, ↓vL, ↓vR, ↓aN, ↓aC, aenv_i, aenv_l, aenv_r, aenv_0, List.replicate, Nat.reduceSub, Nat.reduceAdd, eset2, kill, List.set_cons_zero, List.set_cons_succ, List.set_nil, List.getElem?_cons_zero, List.getElem?_cons_succ, List.getElem?_nil, List.mem_cons, List.not_mem_nil, or_false, or_true, true_and, and_true, true_or, false_or, false_and, and_false, not_false_eq_true, not_true_eq_false, forall_const, false_imp_iff, imp_false, true_imp_iff, if_true, if_false, implies_true, reduceIte, reduceCtorEq,
    ↓fI_h0, ↓fI_h1, ↓fR_h2, ↓fR_h3, ↓fI_h4, ↓fR_h5, ↓fI_h6, ↓fR_h7, ↓fR_h8, ↓fI_h9, ↓fI_h10, ↓fI_p0, ↓fI_p1, ↓fR_p2, ↓fO_p3, hfs_s0, hfs_s1, hfs_s4, hfs_s6, hfs_s8, hfs_s9, hfs_s10, hfs_len, pfs_len, pfs_s3, Nat.reduceLT, Nat.reduceEqDiff, nI_add, nI_mulN, lit32, nI_clamp, vp_in_nI, nI_ltI, nI_eq, nI_leI, Nat.reduceMul, Nat.zero_add, Nat.add_zero, L_House_holds_1, ↓onI_h h3, ↓onI_h h4, ↓onO_h hb, ec, num_not]
          exact fin' g' _ _ _ _ _ _ k3 hle tp
      · cases st with
        | nil => simp at k2
        | cons b0 st =>
          cases st with
          | nil => simp at k2
          | cons a0 st =>
            have g1 : ¬ (0 : Int32) ≤ s := by rcases k1 with rfl | rfl <;> decide
            have g2 : ¬ s = -1 := by rcases k1 with rfl | rfl <;> decide
            have g3 : -10 < s := by rcases k1 with rfl | rfl <;> decide
            have tp : tops e rest ((if s = -2 then a0 && b0 else a0 || b0) :: st) = fin := by
              rw [← htp]
              simp only [tops]
              rw [if_neg g1, if_neg g2, if_pos g3]
            have ec : C j = s := by rw [cj g3, rT, if_neg g1]
            simp only [List.length_cons] at hle k3
            rcases k1 with rfl | rfl
            · have ec : C j = -nI 2 := ec
              have e21 : (-nI 2 = -nI 1) = False := by decide
              have na := num_and (a := a0) (b := b0) (st := st) (by omega)
              simp (disch := omega) only [↓sSeq, ↓sI_f, ↓sL_f, ↓sR_f, ↓sInc_f, fE_c, eset_0, eset_1i, eset_1r, eset_1n, eset_1l, eset_ss, ↓sIf, ↓sBrk, ↓sCnt, ↓sRetI, ↓sRetL, ↓sRetR, ↓sRet, ↓sRetZ, ↓sSkip, ↓sSw, ↓sK, ↓sPop, ↓sFor_t, ↓sast, ↓sastC, ↓szst, ↓spst, ↓sput, ↓sputZ, ↓sputR, ↓sputN, ↓sputC, ↓sCopy,
    ↓xi, ↓xl, ↓xr, ↓xc, ↓xcl, ↓xadd, ↓xsub, ↓xmul, ↓xdiv, ↓xrem, ↓xand, ↓xor, ↓xxor, ↓xshl, ↓xshr, ↓xneg, ↓xaddl, ↓xsubl, ↓xmull, ↓xdivl, ↓xreml, ↓xnegl, ↓xi2l, ↓xi2c, ↓xofC, ↓xite, ↓xitel, ↓xiter, ↓xmax, ↓xmin, ↓xabs, ↓xabsl,
    ↓xg, ↓xgR, ↓xgO, ↓oR, ↓xald, ↓xzld, ↓xpld, ↓xlen, ↓xstr, ↓xinst, ↓cNot, ↓cAnd, ↓cOr, ↓cEq, ↓cLt, ↓cGt, ↓cEq0, ↓cLt0, ↓cGt0, ↓cEqL, ↓cLtL, ↓cGtL, ↓cEqO,
    ↓kI, ↓kL, ↓kR, ↓kV, ↓kS, ↓kD_e, ↓kP, ↓kT, ↓CALL_t, ↓vI, ↓vL, ↓vR, ↓aN, ↓aC, aenv_i, aenv_l, aenv_r, aenv_0, List.replicate, Nat.reduceSub, Nat.reduceAdd, eset2, kill, List.set_cons_zero, List.set_cons_succ, List.set_nil, List.getElem?_cons_zero, List.getElem?_cons_succ, List.getElem?_nil, List.mem_cons, List.not_mem_nil, or_false, or_true, true_and, and_true, true_or, false_or, false_and, and_false, not_false_eq_true, not_true_eq_false, forall_const, false_imp_iff, imp_false, true_imp_iff, if_true, if_false, implies_true, reduceIte, reduceCtorEq,
    ↓fI_h0, ↓fI_h1, ↓fR_h2, ↓fR_h3, ↓fI_h4, ↓fR_h5, ↓fI_h6, ↓fR_h7, ↓fR_h8, ↓fI_h9, ↓fI_h10, ↓fI_p0, ↓fI_p1, ↓fR_p2, ↓fO_p3, hfs_s0, hfs_s1, hfs_s4, hfs_s6, hfs_s8, hfs_s9, hfs_s10, hfs_len, pfs_len, pfs_s3, Nat.reduceLT, Nat.reduceEqDiff, nI_add, nI_mulN, lit32, nI_clamp, vp_in_nI, nI_ltI, nI_eq, nI_leI, Nat.reduceMul, Nat.zero_add, Nat.add_zero, L_House_holds_1, ↓onI_h h3, ↓onI_h h4, ↓onO_h hb, ec, e21, na]
              exact fin' g3 _ _ _ _ _ _ k3 (by simp only [List.length_cons]; omega) tp
            · have ec : C j = -nI 3 := ec
              have e31 : (-nI 3 = -nI 1) = False := by decide
              have e32 : (-nI 3 = -nI 2) = False := by decide
              have na := num_or (a := a0) (b := b0) (st := st) (by omega)
              simp (disch := omega) only [↓sSeq, ↓sI_f, ↓sL_f, ↓sR_f, ↓sInc_f, fE_c, eset_0, eset_1i, eset_1r, eset_1n, eset_1l, eset_ss, ↓sIf, ↓sBrk, ↓sCnt, ↓sRetI, ↓sRetL, ↓sRetR, ↓sRet, ↓sRetZ, ↓sSkip, ↓sSw, ↓sK, ↓sPop, ↓sFor_t, ↓sast, ↓sastC, ↓szst, ↓spst, ↓sput, ↓sputZ, ↓sputR, ↓sputN, ↓sputC, ↓sCopy,
    ↓xi, ↓xl, ↓xr, ↓xc, ↓xcl, ↓xadd, ↓xsub, ↓xmul, ↓xdiv, ↓xrem, ↓xand, ↓xor, ↓xxor, ↓xshl, ↓xshr, ↓xneg, ↓xaddl, ↓xsubl, ↓xmull, ↓xdivl, ↓xreml, ↓xnegl, ↓xi2l, ↓xi2c, ↓xofC, ↓xite, ↓xitel, ↓xiter, ↓xmax, ↓xmin, ↓xabs, ↓xabsl,
    ↓xg, ↓xgR, ↓xgO, ↓oR, ↓xald, ↓xzld, ↓xpld, ↓xlen, ↓xstr, ↓xinst, ↓cNot, ↓cAnd, ↓cOr, ↓cEq, ↓cLt, ↓cGt, ↓cEq0, ↓cLt0, ↓cGt0, ↓cEqL, ↓cLtL, ↓cGtL, ↓cEqO,
    ↓kI, ↓kL, ↓kR, ↓kV, ↓kS, ↓kD_e, ↓kP, ↓kT, ↓CALL_t, ↓vI, ↓vL, ↓vR, ↓aN, ↓aC, aenv_i, aenv_l, aenv_r, aenv_0, List.replicate, Nat.reduceSub, Nat.reduceAdd, eset2, kill, List.set_cons_zero, List.set_cons_succ, List.set_nil, List.getElem?_cons_zero, List.getElem?_cons_succ, List.getElem?_nil, List.mem_cons, List.not_mem_nil, or_false, or_true, true_and, and_true, true_or, false_or, false_and, and_false, not_false_eq_true, not_true_eq_false, forall_const, false_imp_iff, imp_false, true_imp_iff, if_true, if_false, implies_true, reduceIte, reduceCtorEq,
    ↓fI_h0, ↓fI_h1, ↓fR_h2, ↓fR_h3, ↓fI_h4, ↓fR_h5, ↓fI_h6, ↓fR_h7, ↓fR_h8, ↓fI_h9, ↓fI_h10, ↓fI_p0, ↓fI_p1, ↓fR_p2, ↓fO_p3, hfs_s0, hfs_s1, hfs_s4, hfs_s6, hfs_s8, hfs_s9, hfs_s10, hfs_len, pfs_len, pfs_s3, Nat.reduceLT, Nat.reduceEqDiff, nI_add, nI_mulN, lit32, nI_clamp, vp_in_nI, nI_ltI, nI_eq, nI_leI, Nat.reduceMul, Nat.zero_add, Nat.add_zero, L_House_holds_1, ↓onI_h h3, ↓onI_h h4, ↓onO_h hb, ec, e31, e32, na]
              exact fin' g3 _ _ _ _ _ _ k3 (by simp only [List.length_cons]; omega) tp
      · have f3 := (end_facts k1 k2).2.2.1
        rw [show clz (s :: rest) = 0 from if_neg f3] at hj
        omega
  · have hz : clz rest = 0 := by omega
    simp only [exit hz]
    cases fin with
    | true => exact ⟨fun _ => hK, fun q => absurd rfl q⟩
    | false => exact ⟨fun q => Bool.noConfusion q, fun _ => hK⟩
end HEV
