/-! the class's cells: the object, its notes and those of the image, its trace, four states (0 now, 1 trial, 2 rival, 3 the image's) one behind the other -/
/-- a state: its numbers at the reference's places, who they are, its house -/
abbrev SR : Type := (Nat → Int32) × ((Nat → Option Nat) × Nat)
def bA (X : WX) : Nat := X.2.2.2.1
def NB (X : WX) (k : Nat) : Nat := X.2.2.2.1 + 1 + 9 * k
def TB (X : WX) : Nat := X.2.2.2.1 + 19
def SB (X : WX) (k : Nat) : Nat := X.2.2.2.1 + 29 + 6 * k
def sl (S : Nat → Int32) (o n : Nat) : Nat → Int32 := fun j => if j < n then S (o + j) else 0
def sfs (s : Nat) (z : SR) : List Value := [.ref (s + 1), .ref (s + 2), .ref (s + 3), .ref (s + 4), .ref (s + 5), .ref z.2.2, .int (z.1 11), .int (z.1 2), .int (z.1 3), .int (z.1 4)]
def scell (X : WX) (s : Nat) (z : SR) (j : Nat) : va_E := match j with
  | 0 => ob 11 (sfs s z)
  | 1 => iA X 2 (sl z.1 0 2)
  | 2 => pA X 6 z.2.1
  | 3 => iA X 6 (sl z.1 30 6)
  | 4 => iA X 6 (sl z.1 5 6)
  | _ => iA X 24 (sl z.1 36 24)
def nfs (s : Nat) (N : Nat → Int32) : List Value := [.ref (s + 1), .int (N 16), .int (N 12), .ref (s + 2), .ref (s + 3), .int (N 13), .ref (s + 4), .ref (s + 5), .ref (s + 6), .int (N 14), .ref (s + 7), .ref (s + 8), .int (N 15)]
def ncell (X : WX) (s : Nat) (N : Nat → Int32) (j : Nat) : va_E := match j with
  | 0 => ob 1 (nfs s N)
  | 1 => iA X 100 (sl N 100 100)
  | 2 => iA X 6 (sl N 60 6)
  | 3 => iA X 6 (sl N 66 6)
  | 4 => iA X 4 (sl N 72 4)
  | 5 => iA X 4 (sl N 76 4)
  | 6 => iA X 4 (sl N 80 4)
  | 7 => iA X 8 (sl N 84 8)
  | _ => iA X 8 (sl N 92 8)
def ffs (X : WX) (im : Int32) : List Value := [.ref (SB X 0), .ref (NB X 0), .ref (SB X 1), .ref (SB X 2), .ref (SB X 3), .ref (NB X 1), .int im, .ref (TB X)]
def tfs (X : WX) (t : Nat × (Nat → Int32)) : List Value := [.ref (TB X + 1), .int (nI t.1)]
def ccell (X : WX) (st : Nat → SR) (nt : Nat → Nat → Int32) (t : Nat × (Nat → Int32)) (im : Int32) (j : Nat) : va_E :=
  if j = 0 then ob 0 (ffs X im) else if j < 19 then ncell X (NB X ((j - 1) / 9)) (nt ((j - 1) / 9)) ((j - 1) % 9) else if j = 19 then ob 2 (tfs X t) else if j = 20 then iA X 20 t.2 else scell X (SB X ((j - 29) / 6)) (st ((j - 29) / 6)) ((j - 29) % 6)
/-- a heap with the class's cells in it -/
def CH (X : WX) (h : HM) (st : Nat → SR) (nt : Nat → Nat → Int32) (t : Nat × (Nat → Int32)) (im : Int32) : HM := fun a => if (bA X ≤ a ∧ a < bA X + 21) ∨ (bA X + 29 ≤ a ∧ a < bA X + 53) then some (ccell X st nt t im (a - bA X)) else h a
theorem vuS {α : Type} {f : Nat → α} {k : Nat} {x : α} : va_up f k x k = x := by simp [va_up]
theorem vuN {α : Type} {f : Nat → α} {k j : Nat} {x : α} (h : ¬ j = k) : va_up f k x j = f j := by simp [va_up, h]
theorem vuV {α : Type} {f : Nat → α} {k : Nat} {x y : α} : va_up (va_up f k x) k y = va_up f k y := by
  funext j; unfold va_up; by_cases q : j = k <;> simp [q]
theorem vuI {α : Type} {f : Nat → α} {k : Nat} {x : α} (h : x = f k) : va_up f k x = f := by
  funext j; unfold va_up; by_cases q : j = k <;> simp [q, h]
theorem up_s {h : HM} {a : Nat} {e : va_E} : up h a e a = some e := by simp [up]
theorem up_n {h : HM} {a b : Nat} {e : va_E} (q : ¬ b = a) : up h a e b = h b := by simp [up, q]
theorem fS_s {a : Nat} {P : Nat → Prop} : fS (some a) P = P a := rfl
theorem sl_i {S : Nat → Int32} {o n j : Nat} (h : j < n) : sl S o n j = S (o + j) := if_pos h
theorem sl_u {S : Nat → Int32} {o n j : Nat} {x : Int32} (h : j < n) : upd (sl S o n) j x = sl (upd S (o + j) x) o n := by
  funext i
  unfold upd sl
  by_cases q : i = j
  · subst q; simp [h]
  · have : ¬ o + i = o + j := by omega
    simp [q, this]
theorem sl_o {S : Nat → Int32} {o n p : Nat} {x : Int32} (h : p < o ∨ o + n ≤ p) : sl (upd S p x) o n = sl S o n := by
  funext i
  unfold upd sl
  by_cases q : i < n
  · have : ¬ o + i = p := by omega
    simp [q, this]
  · simp [q]
theorem sl_e {S S' : Nat → Int32} {o n : Nat} (h : ∀ j, o ≤ j → j < o + n → S' j = S j) : sl S' o n = sl S o n := by
  funext i
  unfold sl
  by_cases q : i < n
  · rw [if_pos q, if_pos q, h _ (by omega) (by omega)]
  · rw [if_neg q, if_neg q]
theorem sl_cpy {S S' : Nat → Int32} {o n : Nat} : va_cpy (sl S o n) (sl S' o n) 0 0 n = sl S o n := by
  funext i
  unfold va_cpy
  by_cases q : i < n
  · rw [if_pos (by omega), show 0 + (i - 0) = i by omega]
  · rw [if_neg (by omega)]
    unfold sl
    rw [if_neg q, if_neg q]
section CHS
variable {X : WX} {h : HM} {st : Nat → SR} {nt : Nat → Nat → Int32} {t : Nat × (Nat → Int32)} {im : Int32}
theorem CH_F : CH X h st nt t im (bA X) = some (ob 0 (ffs X im)) := by
  unfold CH
  rw [if_pos (Or.inl ⟨Nat.le_refl _, by omega⟩), Nat.sub_self]
  rfl
theorem CH_T : CH X h st nt t im (TB X) = some (ob 2 (tfs X t)) := by
  unfold CH
  rw [if_pos (Or.inl (by unfold TB bA; omega)), show TB X - bA X = 19 by unfold TB bA; omega]
  rfl
theorem CH_T1 : CH X h st nt t im (TB X + 1) = some (iA X 20 t.2) := by
  unfold CH
  rw [if_pos (Or.inl (by unfold TB bA; omega)), show TB X + 1 - bA X = 20 by unfold TB bA; omega]
  rfl
theorem CH_N {k j : Nat} (hk : k < 2) (hj : j < 9) : CH X h st nt t im (NB X k + j) = some (ncell X (NB X k) (nt k) j) := by
  unfold CH
  have e : NB X k + j - bA X = 1 + 9 * k + j := by unfold NB bA; omega
  rw [if_pos (Or.inl (by unfold NB bA; omega)), e]
  unfold ccell
  rw [if_neg (by omega), if_pos (by omega), show (1 + 9 * k + j - 1) / 9 = k by omega, show (1 + 9 * k + j - 1) % 9 = j by omega]
theorem CH_S {k j : Nat} (hk : k < 4) (hj : j < 6) : CH X h st nt t im (SB X k + j) = some (scell X (SB X k) (st k) j) := by
  unfold CH
  have e : SB X k + j - bA X = 29 + 6 * k + j := by unfold SB bA; omega
  rw [if_pos (Or.inr (by unfold SB bA; omega)), e]
  unfold ccell
  rw [if_neg (by omega), if_neg (by omega), if_neg (by omega), if_neg (by omega), show (29 + 6 * k + j - 29) / 6 = k by omega, show (29 + 6 * k + j - 29) % 6 = j by omega]
/-- where persons and houses stand -/
def dynA (X : WX) (a : Nat) : Prop := (bA X + 21 ≤ a ∧ a < bA X + 29) ∨ bA X + 65 ≤ a
theorem CH_D {a : Nat} (ha : dynA X a) : CH X h st nt t im a = h a := by
  unfold CH
  rw [if_neg (by unfold dynA at ha; omega)]
theorem CH_ext {h' : HM} {st' : Nat → SR} {nt' : Nat → Nat → Int32} {t' : Nat × (Nat → Int32)} {im' : Int32} (hd : ∀ a, ¬ ((bA X ≤ a ∧ a < bA X + 21) ∨ (bA X + 29 ≤ a ∧ a < bA X + 53)) → h a = h' a) (hc : ∀ j, j < 21 ∨ (29 ≤ j ∧ j < 53) → ccell X st nt t im j = ccell X st' nt' t' im' j) : CH X h st nt t im = CH X h' st' nt' t' im' := by
  funext a
  unfold CH
  by_cases q : (bA X ≤ a ∧ a < bA X + 21) ∨ (bA X + 29 ≤ a ∧ a < bA X + 53)
  · rw [if_pos q, if_pos q, hc _ (by omega)]
  · rw [if_neg q, if_neg q, hd a q]
/-- one cell is written -/
theorem CH_up {st' : Nat → SR} {nt' : Nat → Nat → Int32} {t' : Nat × (Nat → Int32)} {im' : Int32} {j : Nat} {e : va_E} (hj : j < 21 ∨ (29 ≤ j ∧ j < 53)) (he : e = ccell X st' nt' t' im' j) (hc : ∀ i, i < 21 ∨ (29 ≤ i ∧ i < 53) → i ≠ j → ccell X st nt t im i = ccell X st' nt' t' im' i) : up (CH X h st nt t im) (bA X + j) e = CH X h st' nt' t' im' := by
  funext a
  unfold up CH
  by_cases q : a = bA X + j
  · subst q
    rw [if_pos rfl, if_pos (by omega), Nat.add_sub_cancel_left, he]
  · rw [if_neg q]
    by_cases q2 : (bA X ≤ a ∧ a < bA X + 21) ∨ (bA X + 29 ≤ a ∧ a < bA X + 53)
    · rw [if_pos q2, if_pos q2, hc (a - bA X) (by omega) (by omega)]
    · rw [if_neg q2, if_neg q2]
theorem CH_upS {k j : Nat} {e : va_E} {z : SR} (hk : k < 4) (hj : j < 6) (he : e = scell X (SB X k) z j) (hc : ∀ i, i < 6 → i ≠ j → scell X (SB X k) (st k) i = scell X (SB X k) z i) : up (CH X h st nt t im) (SB X k + j) e = CH X h (va_up st k z) nt t im := by
  rw [show SB X k + j = bA X + (29 + 6 * k + j) by unfold SB bA; omega]
  refine CH_up (by omega) ?_ (fun i h1 h2 => ?_)
  · unfold ccell
    rw [if_neg (by omega), if_neg (by omega), if_neg (by omega), if_neg (by omega), show (29 + 6 * k + j - 29) / 6 = k by omega, show (29 + 6 * k + j - 29) % 6 = j by omega, vuS, he]
  · unfold ccell
    by_cases q : i < 21
    · rcases (by omega : i = 0 ∨ (i ≠ 0 ∧ i < 19) ∨ i = 19 ∨ i = 20) with r | r | r | r
      · rw [if_pos r, if_pos r]
      · rw [if_neg r.1, if_neg r.1, if_pos r.2, if_pos r.2]
      · subst r; rfl
      · subst r; rfl
    · rw [if_neg (by omega), if_neg (by omega), if_neg (by omega), if_neg (by omega), if_neg (by omega), if_neg (by omega), if_neg (by omega), if_neg (by omega)]
      by_cases q2 : (i - 29) / 6 = k
      · rw [q2, vuS]
        exact hc _ (by omega) (by omega)
      · rw [vuN q2]
theorem CH_upN {k j : Nat} {e : va_E} {z : Nat → Int32} (hk : k < 2) (hj : j < 9) (he : e = ncell X (NB X k) z j) (hc : ∀ i, i < 9 → i ≠ j → ncell X (NB X k) (nt k) i = ncell X (NB X k) z i) : up (CH X h st nt t im) (NB X k + j) e = CH X h st (va_up nt k z) t im := by
  rw [show NB X k + j = bA X + (1 + 9 * k + j) by unfold NB bA; omega]
  refine CH_up (by omega) ?_ (fun i h1 h2 => ?_)
  · unfold ccell
    rw [if_neg (by omega), if_pos (by omega), show (1 + 9 * k + j - 1) / 9 = k by omega, show (1 + 9 * k + j - 1) % 9 = j by omega, vuS, he]
  · unfold ccell
    by_cases q0 : i = 0
    · rw [if_pos q0, if_pos q0]
    · rw [if_neg q0, if_neg q0]
      by_cases q : i < 19
      · rw [if_pos q, if_pos q]
        by_cases q2 : (i - 1) / 9 = k
        · rw [q2, vuS]
          exact hc _ (by omega) (by omega)
        · rw [vuN q2]
      · rw [if_neg q, if_neg q]
theorem CH_upD {a : Nat} {e : va_E} (ha : dynA X a) : up (CH X h st nt t im) a e = CH X (up h a e) st nt t im := by
  funext b
  unfold up CH
  by_cases q : b = a
  · subst q
    rw [if_pos rfl, if_neg (by unfold dynA at ha; omega)]
    exact (if_pos rfl).symm
  · rw [if_neg q]
    by_cases q2 : (bA X ≤ b ∧ b < bA X + 21) ∨ (bA X + 29 ≤ b ∧ b < bA X + 53)
    · rw [if_pos q2, if_pos q2]
    · rw [if_neg q2, if_neg q2]
      exact (if_neg q).symm
/-! what the rows read -/
theorem onO_h {a c : Nat} {fs : List Value} (q : h a = some (ob c fs)) {P : Nat → List Value → Prop} : onO (h a) P = P c fs := by rw [q]; rfl
theorem onI_h {a n : Nat} {f : Nat → Int32} (q : h a = some (iA X n f)) {P : Nat → (Nat → Int32) → Prop} : onI X (h a) P = P n f := by rw [q]; exact propext onI_iA
theorem onP_h {a n : Nat} {f : Nat → Option Nat} (q : h a = some (pA X n f)) {P : Nat → (Nat → Option Nat) → Prop} : onP X (h a) P = P n f := by rw [q]; exact propext onP_pA
theorem onO_CF {P : Nat → List Value → Prop} : onO (CH X h st nt t im (bA X)) P = P 0 (ffs X im) := onO_h CH_F
theorem onO_CT {P : Nat → List Value → Prop} : onO (CH X h st nt t im (TB X)) P = P 2 (tfs X t) := onO_h CH_T
theorem onI_CT1 {P : Nat → (Nat → Int32) → Prop} : onI X (CH X h st nt t im (TB X + 1)) P = P 20 t.2 := onI_h CH_T1
section K2
variable {k : Nat} {P : Nat → (Nat → Int32) → Prop} (hk : k < 2)
theorem onO_CN {P : Nat → List Value → Prop} (hk : k < 2) : onO (CH X h st nt t im (NB X k)) P = P 1 (nfs (NB X k) (nt k)) := onO_h (CH_N (j := 0) hk (by omega))
theorem onI_CN1 (hk : k < 2) : onI X (CH X h st nt t im (NB X k + 1)) P = P 100 (sl (nt k) 100 100) := onI_h (CH_N (j := 1) hk (by omega))
theorem onI_CN2 (hk : k < 2) : onI X (CH X h st nt t im (NB X k + 2)) P = P 6 (sl (nt k) 60 6) := onI_h (CH_N (j := 2) hk (by omega))
theorem onI_CN3 (hk : k < 2) : onI X (CH X h st nt t im (NB X k + 3)) P = P 6 (sl (nt k) 66 6) := onI_h (CH_N (j := 3) hk (by omega))
theorem onI_CN4 (hk : k < 2) : onI X (CH X h st nt t im (NB X k + 4)) P = P 4 (sl (nt k) 72 4) := onI_h (CH_N (j := 4) hk (by omega))
theorem onI_CN5 (hk : k < 2) : onI X (CH X h st nt t im (NB X k + 5)) P = P 4 (sl (nt k) 76 4) := onI_h (CH_N (j := 5) hk (by omega))
theorem onI_CN6 (hk : k < 2) : onI X (CH X h st nt t im (NB X k + 6)) P = P 4 (sl (nt k) 80 4) := onI_h (CH_N (j := 6) hk (by omega))
theorem onI_CN7 (hk : k < 2) : onI X (CH X h st nt t im (NB X k + 7)) P = P 8 (sl (nt k) 84 8) := onI_h (CH_N (j := 7) hk (by omega))
theorem onI_CN8 (hk : k < 2) : onI X (CH X h st nt t im (NB X k + 8)) P = P 8 (sl (nt k) 92 8) := onI_h (CH_N (j := 8) hk (by omega))
theorem onO_CS {P : Nat → List Value → Prop} (hk : k < 4) : onO (CH X h st nt t im (SB X k)) P = P 11 (sfs (SB X k) (st k)) := onO_h (CH_S (j := 0) hk (by omega))
theorem onI_CS1 (hk : k < 4) : onI X (CH X h st nt t im (SB X k + 1)) P = P 2 (sl (st k).1 0 2) := onI_h (CH_S (j := 1) hk (by omega))
theorem onP_CS2 {P : Nat → (Nat → Option Nat) → Prop} (hk : k < 4) : onP X (CH X h st nt t im (SB X k + 2)) P = P 6 (st k).2.1 := onP_h (CH_S (j := 2) hk (by omega))
theorem onI_CS3 (hk : k < 4) : onI X (CH X h st nt t im (SB X k + 3)) P = P 6 (sl (st k).1 30 6) := onI_h (CH_S (j := 3) hk (by omega))
theorem onI_CS4 (hk : k < 4) : onI X (CH X h st nt t im (SB X k + 4)) P = P 6 (sl (st k).1 5 6) := onI_h (CH_S (j := 4) hk (by omega))
theorem onI_CS5 (hk : k < 4) : onI X (CH X h st nt t im (SB X k + 5)) P = P 24 (sl (st k).1 36 24) := onI_h (CH_S (j := 5) hk (by omega))
end K2
theorem onO_CD {a : Nat} {P : Nat → List Value → Prop} (ha : dynA X a) : onO (CH X h st nt t im a) P = onO (h a) P := by rw [CH_D ha]
theorem onI_CD {a : Nat} {P : Nat → (Nat → Int32) → Prop} (ha : dynA X a) : onI X (CH X h st nt t im a) P = onI X (h a) P := by rw [CH_D ha]
section FIE
variable {s : Nat} {z : SR} {N : Nat → Int32} {P : Int32 → Prop} {Q : Nat → Prop}
theorem fR_f0 : fR (ffs X im)[0]? Q = Q (SB X 0) := rfl
theorem fR_f1 : fR (ffs X im)[1]? Q = Q (NB X 0) := rfl
theorem fR_f2 : fR (ffs X im)[2]? Q = Q (SB X 1) := rfl
theorem fR_f3 : fR (ffs X im)[3]? Q = Q (SB X 2) := rfl
theorem fR_f4 : fR (ffs X im)[4]? Q = Q (SB X 3) := rfl
theorem fR_f5 : fR (ffs X im)[5]? Q = Q (NB X 1) := rfl
theorem fI_f6 : fI (ffs X im)[6]? P = P im := rfl
theorem fR_f7 : fR (ffs X im)[7]? Q = Q (TB X) := rfl
theorem fR_t0 : fR (tfs X t)[0]? Q = Q (TB X + 1) := rfl
theorem fI_t1 : fI (tfs X t)[1]? P = P (nI t.1) := rfl
theorem fR_s0 : fR (sfs s z)[0]? Q = Q (s + 1) := rfl
theorem fR_s1 : fR (sfs s z)[1]? Q = Q (s + 2) := rfl
theorem fR_s2 : fR (sfs s z)[2]? Q = Q (s + 3) := rfl
theorem fR_s3 : fR (sfs s z)[3]? Q = Q (s + 4) := rfl
theorem fR_s4 : fR (sfs s z)[4]? Q = Q (s + 5) := rfl
theorem fR_s5 : fR (sfs s z)[5]? Q = Q z.2.2 := rfl
theorem fO_s5 {Q : Option Nat → Prop} : fO (sfs s z)[5]? Q = Q (some z.2.2) := rfl
theorem fI_s6 : fI (sfs s z)[6]? P = P (z.1 11) := rfl
theorem fI_s7 : fI (sfs s z)[7]? P = P (z.1 2) := rfl
theorem fI_s8 : fI (sfs s z)[8]? P = P (z.1 3) := rfl
theorem fI_s9 : fI (sfs s z)[9]? P = P (z.1 4) := rfl
theorem fR_n0 : fR (nfs s N)[0]? Q = Q (s + 1) := rfl
theorem fI_n1 : fI (nfs s N)[1]? P = P (N 16) := rfl
theorem fI_n2 : fI (nfs s N)[2]? P = P (N 12) := rfl
theorem fR_n3 : fR (nfs s N)[3]? Q = Q (s + 2) := rfl
theorem fR_n4 : fR (nfs s N)[4]? Q = Q (s + 3) := rfl
theorem fI_n5 : fI (nfs s N)[5]? P = P (N 13) := rfl
theorem fR_n6 : fR (nfs s N)[6]? Q = Q (s + 4) := rfl
theorem fR_n7 : fR (nfs s N)[7]? Q = Q (s + 5) := rfl
theorem fR_n8 : fR (nfs s N)[8]? Q = Q (s + 6) := rfl
theorem fI_n9 : fI (nfs s N)[9]? P = P (N 14) := rfl
theorem fR_n10 : fR (nfs s N)[10]? Q = Q (s + 7) := rfl
theorem fR_n11 : fR (nfs s N)[11]? Q = Q (s + 8) := rfl
theorem fI_n12 : fI (nfs s N)[12]? P = P (N 15) := rfl
theorem ffs_len : (ffs X im).length = 8 := rfl
theorem tfs_len : (tfs X t).length = 2 := rfl
theorem sfs_len : (sfs s z).length = 10 := rfl
theorem nfs_len : (nfs s N).length = 13 := rfl
end FIE
/-! what the rows write -/
section UPS
variable {k c : Nat} {x : Int32} {a : Nat}
theorem CHu_F {x : Int32} : up (CH X h st nt t im) (bA X) (ob 0 ((ffs X im).set 6 (.int x))) = CH X h st nt t x :=
  CH_up (j := 0) (by omega) rfl (fun i h1 h2 => by unfold ccell; rw [if_neg h2, if_neg h2])
theorem CHu_T {n : Nat} : up (CH X h st nt t im) (TB X) (ob 2 ((tfs X t).set 1 (.int (nI n)))) = CH X h st nt (n, t.2) im := by
  rw [show TB X = bA X + 19 by unfold TB bA; rfl]
  refine CH_up (j := 19) (by omega) (by unfold ccell; simp [tfs]) (fun i h1 h2 => ?_)
  unfold ccell
  by_cases q0 : i = 0
  · rw [if_pos q0, if_pos q0]
  · rw [if_neg q0, if_neg q0]
    by_cases q : i < 19
    · rw [if_pos q, if_pos q]
    · rw [if_neg q, if_neg q, if_neg h2, if_neg h2]
theorem CHu_T1 {f : Nat → Int32} : up (CH X h st nt t im) (TB X + 1) (iA X 20 f) = CH X h st nt (t.1, f) im := by
  rw [show TB X + 1 = bA X + 20 by unfold TB bA; rfl]
  refine CH_up (j := 20) (by omega) (by unfold ccell; simp) (fun i h1 h2 => ?_)
  unfold ccell
  by_cases q0 : i = 0
  · rw [if_pos q0, if_pos q0]
  · rw [if_neg q0, if_neg q0]
    by_cases q : i < 19
    · rw [if_pos q, if_pos q]
    · rw [if_neg q, if_neg q]
      by_cases q2 : i = 19
      · rw [if_pos q2, if_pos q2]; rfl
      · rw [if_neg q2, if_neg q2, if_neg h2, if_neg h2]
theorem scell_c {z z' : SR} {s : Nat} (h0 : sl z'.1 0 2 = sl z.1 0 2) (h3 : sl z'.1 30 6 = sl z.1 30 6) (h4 : sl z'.1 5 6 = sl z.1 5 6) (h5 : sl z'.1 36 24 = sl z.1 36 24) (h2 : z'.2.1 = z.2.1) : ∀ i, i < 6 → i ≠ 0 → scell X s z i = scell X s z' i := fun i h1 hn => by
  match i, h1, hn with
  | 0, _, q => exact absurd rfl q
  | 1, _, _ => show iA X 2 _ = iA X 2 _; rw [h0]
  | 2, _, _ => show pA X 6 _ = pA X 6 _; rw [h2]
  | 3, _, _ => show iA X 6 _ = iA X 6 _; rw [h3]
  | 4, _, _ => show iA X 6 _ = iA X 6 _; rw [h4]
  | 5, _, _ => show iA X 24 _ = iA X 24 _; rw [h5]
theorem CHu_S5 {z : SR} (hk : k < 4) (hz : z = st k) : up (CH X h st nt t im) (SB X k) (ob 11 ((sfs (SB X k) z).set 5 (.ref a))) = CH X h (va_up st k (z.1, (z.2.1, a))) nt t im := by
  subst hz
  exact CH_upS (j := 0) hk (by omega) (by simp [scell, sfs]) (scell_c rfl rfl rfl rfl rfl)
theorem CHu_S6 {z : SR} (hk : k < 4) (hz : z = st k) : up (CH X h st nt t im) (SB X k) (ob 11 ((sfs (SB X k) z).set 6 (.int x))) = CH X h (va_up st k (upd z.1 11 x, z.2)) nt t im := by
  subst hz
  exact CH_upS (j := 0) hk (by omega) (by simp [scell, sfs, upd]) (scell_c (sl_o (by omega)) (sl_o (by omega)) (sl_o (by omega)) (sl_o (by omega)) rfl)
theorem CHu_S7 {z : SR} (hk : k < 4) (hz : z = st k) : up (CH X h st nt t im) (SB X k) (ob 11 ((sfs (SB X k) z).set 7 (.int x))) = CH X h (va_up st k (upd z.1 2 x, z.2)) nt t im := by
  subst hz
  exact CH_upS (j := 0) hk (by omega) (by simp [scell, sfs, upd]) (scell_c (sl_o (by omega)) (sl_o (by omega)) (sl_o (by omega)) (sl_o (by omega)) rfl)
theorem CHu_S8 {z : SR} (hk : k < 4) (hz : z = st k) : up (CH X h st nt t im) (SB X k) (ob 11 ((sfs (SB X k) z).set 8 (.int x))) = CH X h (va_up st k (upd z.1 3 x, z.2)) nt t im := by
  subst hz
  exact CH_upS (j := 0) hk (by omega) (by simp [scell, sfs, upd]) (scell_c (sl_o (by omega)) (sl_o (by omega)) (sl_o (by omega)) (sl_o (by omega)) rfl)
theorem CHu_S9 {z : SR} (hk : k < 4) (hz : z = st k) : up (CH X h st nt t im) (SB X k) (ob 11 ((sfs (SB X k) z).set 9 (.int x))) = CH X h (va_up st k (upd z.1 4 x, z.2)) nt t im := by
  subst hz
  exact CH_upS (j := 0) hk (by omega) (by simp [scell, sfs, upd]) (scell_c (sl_o (by omega)) (sl_o (by omega)) (sl_o (by omega)) (sl_o (by omega)) rfl)
/-- an array of a state -/
theorem scell_a {z : SR} {s p : Nat} {x : Int32} {j : Nat} (hj : 1 ≤ j ∧ j ≤ 5) (h11 : p ≠ 11) (h2 : p ≠ 2) (h3 : p ≠ 3) (h4 : p ≠ 4) (k1 : j ≠ 1 → p < 0 ∨ 0 + 2 ≤ p) (k3 : j ≠ 3 → p < 30 ∨ 30 + 6 ≤ p) (k4 : j ≠ 4 → p < 5 ∨ 5 + 6 ≤ p) (k5 : j ≠ 5 → p < 36 ∨ 36 + 24 ≤ p) : ∀ i, i < 6 → i ≠ j → scell X s z i = scell X s (upd z.1 p x, z.2) i := fun i h1 hn => by
  match i, h1, hn with
  | 0, _, _ => show ob 11 _ = ob 11 _; unfold sfs; simp only []; rw [upd_n (Ne.symm h11), upd_n (Ne.symm h2), upd_n (Ne.symm h3), upd_n (Ne.symm h4)]
  | 1, _, q => show iA X 2 _ = iA X 2 _; rw [sl_o (k1 (Ne.symm q))]
  | 2, _, _ => rfl
  | 3, _, q => show iA X 6 _ = iA X 6 _; rw [sl_o (k3 (Ne.symm q))]
  | 4, _, q => show iA X 6 _ = iA X 6 _; rw [sl_o (k4 (Ne.symm q))]
  | 5, _, q => show iA X 24 _ = iA X 24 _; rw [sl_o (k5 (Ne.symm q))]
theorem CHu_a1 {z : Nat → Int32} (hk : k < 4) (hc : c < 2) (hz : z = (st k).1) : up (CH X h st nt t im) (SB X k + 1) (iA X 2 (upd (sl z 0 2) c x)) = CH X h (va_up st k (upd z c x, (st k).2)) nt t im := by
  subst hz
  exact CH_upS (j := 1) hk (by omega) (by rw [sl_u hc, Nat.zero_add]; rfl) (scell_a (by omega) (by omega) (by omega) (by omega) (by omega) (by omega) (by omega) (by omega) (by omega))
theorem CHu_a2 {f : Nat → Option Nat} (hk : k < 4) : up (CH X h st nt t im) (SB X k + 2) (pA X 6 f) = CH X h (va_up st k ((st k).1, (f, (st k).2.2))) nt t im :=
  CH_upS (j := 2) hk (by omega) rfl (fun i h1 hn => by
    match i, h1, hn with
    | 0, _, _ => rfl
    | 1, _, _ => rfl
    | 2, _, q => exact absurd rfl q
    | 3, _, _ => rfl
    | 4, _, _ => rfl
    | 5, _, _ => rfl)
theorem CHu_a3 {z : Nat → Int32} (hk : k < 4) (hc : c < 6) (hz : z = (st k).1) : up (CH X h st nt t im) (SB X k + 3) (iA X 6 (upd (sl z 30 6) c x)) = CH X h (va_up st k (upd z (30 + c) x, (st k).2)) nt t im := by
  subst hz
  exact CH_upS (j := 3) hk (by omega) (by rw [sl_u hc]; rfl) (scell_a (by omega) (by omega) (by omega) (by omega) (by omega) (by omega) (by omega) (by omega) (by omega))
theorem CHu_a4 {z : Nat → Int32} (hk : k < 4) (hc : c < 6) (hz : z = (st k).1) : up (CH X h st nt t im) (SB X k + 4) (iA X 6 (upd (sl z 5 6) c x)) = CH X h (va_up st k (upd z (5 + c) x, (st k).2)) nt t im := by
  subst hz
  exact CH_upS (j := 4) hk (by omega) (by rw [sl_u hc]; rfl) (scell_a (by omega) (by omega) (by omega) (by omega) (by omega) (by omega) (by omega) (by omega) (by omega))
theorem CHu_a5 {z : Nat → Int32} (hk : k < 4) (hc : c < 24) (hz : z = (st k).1) : up (CH X h st nt t im) (SB X k + 5) (iA X 24 (upd (sl z 36 24) c x)) = CH X h (va_up st k (upd z (36 + c) x, (st k).2)) nt t im := by
  subst hz
  exact CH_upS (j := 5) hk (by omega) (by rw [sl_u hc]; rfl) (scell_a (by omega) (by omega) (by omega) (by omega) (by omega) (by omega) (by omega) (by omega) (by omega))
/-! notes -/
theorem ncell_c {s : Nat} {N N' : Nat → Int32} {j : Nat} (k0 : j ≠ 0 → N' 16 = N 16 ∧ N' 12 = N 12 ∧ N' 13 = N 13 ∧ N' 14 = N 14 ∧ N' 15 = N 15) (k1 : j ≠ 1 → sl N' 100 100 = sl N 100 100) (k2 : j ≠ 2 → sl N' 60 6 = sl N 60 6) (k3 : j ≠ 3 → sl N' 66 6 = sl N 66 6) (k4 : j ≠ 4 → sl N' 72 4 = sl N 72 4) (k5 : j ≠ 5 → sl N' 76 4 = sl N 76 4) (k6 : j ≠ 6 → sl N' 80 4 = sl N 80 4) (k7 : j ≠ 7 → sl N' 84 8 = sl N 84 8) (k8 : j ≠ 8 → sl N' 92 8 = sl N 92 8) : ∀ i, i < 9 → i ≠ j → ncell X s N i = ncell X s N' i := fun i h1 hn => by
  match i, h1, hn with
  | 0, _, q => show ob 1 _ = ob 1 _; unfold nfs; obtain ⟨e1, e2, e3, e4, e5⟩ := k0 (Ne.symm q); rw [e1, e2, e3, e4, e5]
  | 1, _, q => show iA X 100 _ = iA X 100 _; rw [k1 (Ne.symm q)]
  | 2, _, q => show iA X 6 _ = iA X 6 _; rw [k2 (Ne.symm q)]
  | 3, _, q => show iA X 6 _ = iA X 6 _; rw [k3 (Ne.symm q)]
  | 4, _, q => show iA X 4 _ = iA X 4 _; rw [k4 (Ne.symm q)]
  | 5, _, q => show iA X 4 _ = iA X 4 _; rw [k5 (Ne.symm q)]
  | 6, _, q => show iA X 4 _ = iA X 4 _; rw [k6 (Ne.symm q)]
  | 7, _, q => show iA X 8 _ = iA X 8 _; rw [k7 (Ne.symm q)]
  | 8, _, q => show iA X 8 _ = iA X 8 _; rw [k8 (Ne.symm q)]
theorem ncell_0 {s : Nat} {N : Nat → Int32} {p : Nat} (hp : p < 60) : ∀ i, i < 9 → i ≠ 0 → ncell X s N i = ncell X s (upd N p x) i :=
  ncell_c (fun q => absurd rfl q) (fun _ => sl_o (by omega)) (fun _ => sl_o (by omega)) (fun _ => sl_o (by omega)) (fun _ => sl_o (by omega)) (fun _ => sl_o (by omega)) (fun _ => sl_o (by omega)) (fun _ => sl_o (by omega)) (fun _ => sl_o (by omega))
theorem CHu_N1 {z : Nat → Int32} (hk : k < 2) (hz : z = nt k) : up (CH X h st nt t im) (NB X k) (ob 1 ((nfs (NB X k) z).set 1 (.int x))) = CH X h st (va_up nt k (upd z 16 x)) t im := by
  subst hz
  exact CH_upN (j := 0) hk (by omega) (by simp [ncell, nfs, upd]) (ncell_0 (by omega))
theorem CHu_N2 {z : Nat → Int32} (hk : k < 2) (hz : z = nt k) : up (CH X h st nt t im) (NB X k) (ob 1 ((nfs (NB X k) z).set 2 (.int x))) = CH X h st (va_up nt k (upd z 12 x)) t im := by
  subst hz
  exact CH_upN (j := 0) hk (by omega) (by simp [ncell, nfs, upd]) (ncell_0 (by omega))
theorem CHu_N5 {z : Nat → Int32} (hk : k < 2) (hz : z = nt k) : up (CH X h st nt t im) (NB X k) (ob 1 ((nfs (NB X k) z).set 5 (.int x))) = CH X h st (va_up nt k (upd z 13 x)) t im := by
  subst hz
  exact CH_upN (j := 0) hk (by omega) (by simp [ncell, nfs, upd]) (ncell_0 (by omega))
theorem CHu_N9 {z : Nat → Int32} (hk : k < 2) (hz : z = nt k) : up (CH X h st nt t im) (NB X k) (ob 1 ((nfs (NB X k) z).set 9 (.int x))) = CH X h st (va_up nt k (upd z 14 x)) t im := by
  subst hz
  exact CH_upN (j := 0) hk (by omega) (by simp [ncell, nfs, upd]) (ncell_0 (by omega))
theorem CHu_N12 {z : Nat → Int32} (hk : k < 2) (hz : z = nt k) : up (CH X h st nt t im) (NB X k) (ob 1 ((nfs (NB X k) z).set 12 (.int x))) = CH X h st (va_up nt k (upd z 15 x)) t im := by
  subst hz
  exact CH_upN (j := 0) hk (by omega) (by simp [ncell, nfs, upd]) (ncell_0 (by omega))
theorem ncell_a {s : Nat} {N : Nat → Int32} {p j : Nat} (hp : 60 ≤ p) (k1 : j ≠ 1 → p < 100) (k2 : j ≠ 2 → p < 60 ∨ 66 ≤ p) (k3 : j ≠ 3 → p < 66 ∨ 72 ≤ p) (k4 : j ≠ 4 → p < 72 ∨ 76 ≤ p) (k5 : j ≠ 5 → p < 76 ∨ 80 ≤ p) (k6 : j ≠ 6 → p < 80 ∨ 84 ≤ p) (k7 : j ≠ 7 → p < 84 ∨ 92 ≤ p) (k8 : j ≠ 8 → p < 92 ∨ 100 ≤ p) : ∀ i, i < 9 → i ≠ j → ncell X s N i = ncell X s (upd N p x) i :=
  ncell_c (fun _ => ⟨upd_n (by omega), upd_n (by omega), upd_n (by omega), upd_n (by omega), upd_n (by omega)⟩) (fun q => sl_o (by have := k1 q; omega)) (fun q => sl_o (by have := k2 q; omega)) (fun q => sl_o (by have := k3 q; omega)) (fun q => sl_o (by have := k4 q; omega)) (fun q => sl_o (by have := k5 q; omega)) (fun q => sl_o (by have := k6 q; omega)) (fun q => sl_o (by have := k7 q; omega)) (fun q => sl_o (by have := k8 q; omega))
theorem CHu_b1 {z : Nat → Int32} (hk : k < 2) (hc : c < 100) (hz : z = nt k) : up (CH X h st nt t im) (NB X k + 1) (iA X 100 (upd (sl z 100 100) c x)) = CH X h st (va_up nt k (upd z (100 + c) x)) t im := by
  subst hz
  exact CH_upN (j := 1) hk (by omega) (by rw [sl_u hc]; rfl) (ncell_a (by omega) (by omega) (by omega) (by omega) (by omega) (by omega) (by omega) (by omega) (by omega))
theorem CHu_b2 {z : Nat → Int32} (hk : k < 2) (hc : c < 6) (hz : z = nt k) : up (CH X h st nt t im) (NB X k + 2) (iA X 6 (upd (sl z 60 6) c x)) = CH X h st (va_up nt k (upd z (60 + c) x)) t im := by
  subst hz
  exact CH_upN (j := 2) hk (by omega) (by rw [sl_u hc]; rfl) (ncell_a (by omega) (by omega) (by omega) (by omega) (by omega) (by omega) (by omega) (by omega) (by omega))
theorem CHu_b3 {z : Nat → Int32} (hk : k < 2) (hc : c < 6) (hz : z = nt k) : up (CH X h st nt t im) (NB X k + 3) (iA X 6 (upd (sl z 66 6) c x)) = CH X h st (va_up nt k (upd z (66 + c) x)) t im := by
  subst hz
  exact CH_upN (j := 3) hk (by omega) (by rw [sl_u hc]; rfl) (ncell_a (by omega) (by omega) (by omega) (by omega) (by omega) (by omega) (by omega) (by omega) (by omega))
theorem CHu_b4 {z : Nat → Int32} (hk : k < 2) (hc : c < 4) (hz : z = nt k) : up (CH X h st nt t im) (NB X k + 4) (iA X 4 (upd (sl z 72 4) c x)) = CH X h st (va_up nt k (upd z (72 + c) x)) t im := by
  subst hz
  exact CH_upN (j := 4) hk (by omega) (by rw [sl_u hc]; rfl) (ncell_a (by omega) (by omega) (by omega) (by omega) (by omega) (by omega) (by omega) (by omega) (by omega))
theorem CHu_b5 {z : Nat → Int32} (hk : k < 2) (hc : c < 4) (hz : z = nt k) : up (CH X h st nt t im) (NB X k + 5) (iA X 4 (upd (sl z 76 4) c x)) = CH X h st (va_up nt k (upd z (76 + c) x)) t im := by
  subst hz
  exact CH_upN (j := 5) hk (by omega) (by rw [sl_u hc]; rfl) (ncell_a (by omega) (by omega) (by omega) (by omega) (by omega) (by omega) (by omega) (by omega) (by omega))
theorem CHu_b6 {z : Nat → Int32} (hk : k < 2) (hc : c < 4) (hz : z = nt k) : up (CH X h st nt t im) (NB X k + 6) (iA X 4 (upd (sl z 80 4) c x)) = CH X h st (va_up nt k (upd z (80 + c) x)) t im := by
  subst hz
  exact CH_upN (j := 6) hk (by omega) (by rw [sl_u hc]; rfl) (ncell_a (by omega) (by omega) (by omega) (by omega) (by omega) (by omega) (by omega) (by omega) (by omega))
theorem CHu_b7 {z : Nat → Int32} (hk : k < 2) (hc : c < 8) (hz : z = nt k) : up (CH X h st nt t im) (NB X k + 7) (iA X 8 (upd (sl z 84 8) c x)) = CH X h st (va_up nt k (upd z (84 + c) x)) t im := by
  subst hz
  exact CH_upN (j := 7) hk (by omega) (by rw [sl_u hc]; rfl) (ncell_a (by omega) (by omega) (by omega) (by omega) (by omega) (by omega) (by omega) (by omega) (by omega))
theorem CHu_b8 {z : Nat → Int32} (hk : k < 2) (hc : c < 8) (hz : z = nt k) : up (CH X h st nt t im) (NB X k + 8) (iA X 8 (upd (sl z 92 8) c x)) = CH X h st (va_up nt k (upd z (92 + c) x)) t im := by
  subst hz
  exact CH_upN (j := 8) hk (by omega) (by rw [sl_u hc]; rfl) (ncell_a (by omega) (by omega) (by omega) (by omega) (by omega) (by omega) (by omega) (by omega) (by omega))
end UPS
end CHS
/-! a call whose body hangs on the class -/
def dsp (X : WX) (tg : List (Nat × MD)) (d b : Nat) (vs : List Value) (h : HM) (K : Option Value → HM → Prop) (_ : Tag K) : Prop := onO (h b) (fun c _ => match tg.lookup c with
  | some M => CALL X M d (.ref b :: vs) h K
  | none => False)
theorem kD_e {X : WX} {tg : List (Nat × MD)} {d : Nat} {o : ER} {a : EA} {env : Lc} {σ : AH} {K : Option Value → AH → Prop} : kD X tg d o a env σ K = o env σ (fun b σ1 => a env σ1 (fun vs σ2 => dsp X tg d b vs σ2.1 (fun rv h' => K rv (h', σ2.2)) (tagged _))) := rfl
theorem dsp_of {X : WX} {tg : List (Nat × MD)} {d b : Nat} {vs : List Value} {h : HM} {K : Option Value → HM → Prop} {t : Tag K} {c : Nat} {fs : List Value} {M : MD} (hb : h b = some (ob c fs)) (hm : tg.lookup c = some M) (hc : CALL X M d (.ref b :: vs) h K) : dsp X tg d b vs h K t := by
  unfold dsp
  rw [hb]
  show (match tg.lookup c with
    | some M => CALL X M d (.ref b :: vs) h K
    | none => False)
  rw [hm]
  exact hc
