/-! symbolic runs: what a run comes to is hidden (by a tag that hangs on it) until the call or loop ahead of it is done -/
def Tag {α : Sort _} (_ : α) : Type := Unit
def tagged {α : Sort _} (a : α) : Tag a := ()
def CALLt (X : WX) (M : MD) (d : Nat) (vs : List Value) (h : HM) (K : Option Value → HM → Prop) (_ : Tag K) : Prop := CALL X M d vs h K
theorem CALL_t {X : WX} {M : MD} {d : Nat} {vs : List Value} {h : HM} {K : Option Value → HM → Prop} : CALL X M d vs h K = CALLt X M d vs h K (tagged K) := rfl
def sForT (c : EC) (b u : ST) (env : Lc) (σ : AH) (Kn : KN) (Kr : KR) (_ : Tag Kn) (_ : Tag Kr) : Prop := ∃ n, lp c b u Kn Kr n env σ
theorem sFor_t {c : EC} {b u : ST} {env : Lc} {σ : AH} {Kn Kb Kc : KN} {Kr : KR} : sFor c b u env σ Kn Kb Kc Kr = sForT c b u env σ Kn Kr (tagged Kn) (tagged Kr) := rfl
theorem CALL.weaken {X : WX} {M : MD} {d : Nat} {vs : List Value} {h : HM} {K K2 : Option Value → HM → Prop} (hc : CALL X M d vs h K) (hk : ∀ rv h', K rv h' → K2 rv h') : CALL X M d vs h K2 := fun nx => (hc nx).weaken (fun rv h' nx' z => ⟨z.1, hk _ _ z.2⟩)
/-- a loop: an invariant by how many rounds are left at most -/
theorem for_rule {c : EC} {b u : ST} {Kn : KN} {Kr : KR} {t1 : Tag Kn} {t2 : Tag Kr} (I : Nat → Lc → AH → Prop) (n : Nat) {env : Lc} {σ : AH} (h0 : I n env σ)
    (hs : ∀ (n : Nat) (env : Lc) (σ : AH) (P : Lc → AH → Prop), I n env σ → (∀ (m : Nat) (e : Lc) (s : AH), n = m + 1 → I m e s → P e s) →
      c env σ (fun σ1 => b env σ1 (fun e2 σ2 => u e2 σ2 P (fun _ _ => False) (fun _ _ => False) (fun _ _ => False)) Kn (fun e2 σ2 => u e2 σ2 P (fun _ _ => False) (fun _ _ => False) (fun _ _ => False)) Kr) (fun σ1 => Kn env σ1)) : sForT c b u env σ Kn Kr t1 t2 := by
  refine ⟨n + 1, ?_⟩
  induction n generalizing env σ with
  | zero => exact hs 0 env σ _ h0 (fun m e s q _ => by cases q)
  | succ n ih => exact hs (n + 1) env σ _ h0 (fun m e s q hI => by cases q; exact ih hI)
/-! the model's cells: the object and its eleven arrays stand one behind the other -/
def mB (X : WX) : Nat := X.2.2.2.1 + 53
/-- the int fields by their slots -/
def mfs (X : WX) (i : Nat → Int32) : List Value := [.int (i 0), .ref (mB X + 1), .ref (mB X + 2), .ref (mB X + 3), .int (i 4), .int (i 5), .int (i 6), .int (i 7), .int (i 8), .int (i 9), .ref (mB X + 4), .ref (mB X + 5), .int (i 12), .ref (mB X + 6), .ref (mB X + 7), .ref (mB X + 8), .ref (mB X + 9), .int (i 17), .ref (mB X + 10), .ref (mB X + 11), .int (i 20), .int (i 21), .int (i 22), .int (i 23)]
def mcell (X : WX) (i : Nat → Int32) (S I F B T : Nat → Int32) (r : Nat → Nat → Int32) (j : Nat) : va_E := match j with
  | 0 => ob 12 (mfs X i)
  | 1 => iA X 915 S
  | 2 => iA X 915 I
  | 3 => iA X 11 F
  | 4 => iA X 6 B
  | 5 => zA X 64 T
  | 6 => iA X 6 (r 6)
  | 7 => iA X 44 (r 7)
  | 8 => iA X 4 (r 8)
  | 9 => iA X 4 (r 9)
  | 10 => iA X 31 (r 10)
  | _ => iA X 20 (r 11)
/-- a heap with the model in it: i its int fields, S its row, I the image, F the frame, B and T what looks() scribbles on, r the other arrays -/
def MH (X : WX) (h : HM) (i : Nat → Int32) (S I F B T : Nat → Int32) (r : Nat → Nat → Int32) : HM := fun a => if mB X ≤ a ∧ a ≤ mB X + 11 then some (mcell X i S I F B T r (a - mB X)) else h a
section MHS
variable {X : WX} {h : HM} {i : Nat → Int32} {S I F B T f : Nat → Int32} {r : Nat → Nat → Int32}
theorem MH_at (j : Nat) (hj : j ≤ 11) : MH X h i S I F B T r (mB X + j) = some (mcell X i S I F B T r j) := by
  unfold MH
  rw [if_pos ⟨Nat.le_add_right _ _, by omega⟩, Nat.add_sub_cancel_left]
theorem MH_0 : MH X h i S I F B T r (mB X) = some (ob 12 (mfs X i)) := MH_at 0 (by omega)
theorem MH_1 : MH X h i S I F B T r (mB X + 1) = some (iA X 915 S) := MH_at 1 (by omega)
theorem MH_2 : MH X h i S I F B T r (mB X + 2) = some (iA X 915 I) := MH_at 2 (by omega)
theorem MH_3 : MH X h i S I F B T r (mB X + 3) = some (iA X 11 F) := MH_at 3 (by omega)
theorem MH_4 : MH X h i S I F B T r (mB X + 4) = some (iA X 6 B) := MH_at 4 (by omega)
theorem MH_5 : MH X h i S I F B T r (mB X + 5) = some (zA X 64 T) := MH_at 5 (by omega)
theorem MH_6 : MH X h i S I F B T r (mB X + 6) = some (iA X 6 (r 6)) := MH_at 6 (by omega)
theorem MH_7 : MH X h i S I F B T r (mB X + 7) = some (iA X 44 (r 7)) := MH_at 7 (by omega)
theorem MH_8 : MH X h i S I F B T r (mB X + 8) = some (iA X 4 (r 8)) := MH_at 8 (by omega)
theorem MH_9 : MH X h i S I F B T r (mB X + 9) = some (iA X 4 (r 9)) := MH_at 9 (by omega)
theorem MH_10 : MH X h i S I F B T r (mB X + 10) = some (iA X 31 (r 10)) := MH_at 10 (by omega)
theorem MH_11 : MH X h i S I F B T r (mB X + 11) = some (iA X 20 (r 11)) := MH_at 11 (by omega)
theorem MH_up {i' : Nat → Int32} {S' I' F' B' T' : Nat → Int32} {r' : Nat → Nat → Int32} (k : Nat) (hk : k ≤ 11) (e : va_E) (he : e = mcell X i' S' I' F' B' T' r' k) (ho : ∀ j, j ≤ 11 → j ≠ k → mcell X i S I F B T r j = mcell X i' S' I' F' B' T' r' j) : up (MH X h i S I F B T r) (mB X + k) e = MH X h i' S' I' F' B' T' r' := by
  funext a
  unfold up MH
  by_cases q : a = mB X + k
  · subst q
    rw [if_pos rfl, if_pos ⟨Nat.le_add_right _ _, by omega⟩, Nat.add_sub_cancel_left, he]
  · rw [if_neg q]
    by_cases q2 : mB X ≤ a ∧ a ≤ mB X + 11
    · rw [if_pos q2, if_pos q2, ho (a - mB X) (by omega) (by omega)]
    · rw [if_neg q2, if_neg q2]
theorem MHu_1 : up (MH X h i S I F B T r) (mB X + 1) (iA X 915 f) = MH X h i f I F B T r := MH_up 1 (by omega) _ rfl (fun j hj hn => by match j, hj, hn with | 0, _, _ => rfl | 1, _, q => exact absurd rfl q | 2, _, _ => rfl | 3, _, _ => rfl | 4, _, _ => rfl | 5, _, _ => rfl | 6, _, _ => rfl | 7, _, _ => rfl | 8, _, _ => rfl | 9, _, _ => rfl | 10, _, _ => rfl | 11, _, _ => rfl)
theorem MHu_2 : up (MH X h i S I F B T r) (mB X + 2) (iA X 915 f) = MH X h i S f F B T r := MH_up 2 (by omega) _ rfl (fun j hj hn => by match j, hj, hn with | 0, _, _ => rfl | 1, _, _ => rfl | 2, _, q => exact absurd rfl q | 3, _, _ => rfl | 4, _, _ => rfl | 5, _, _ => rfl | 6, _, _ => rfl | 7, _, _ => rfl | 8, _, _ => rfl | 9, _, _ => rfl | 10, _, _ => rfl | 11, _, _ => rfl)
theorem MHu_3 : up (MH X h i S I F B T r) (mB X + 3) (iA X 11 f) = MH X h i S I f B T r := MH_up 3 (by omega) _ rfl (fun j hj hn => by match j, hj, hn with | 0, _, _ => rfl | 1, _, _ => rfl | 2, _, _ => rfl | 3, _, q => exact absurd rfl q | 4, _, _ => rfl | 5, _, _ => rfl | 6, _, _ => rfl | 7, _, _ => rfl | 8, _, _ => rfl | 9, _, _ => rfl | 10, _, _ => rfl | 11, _, _ => rfl)
theorem MHu_4 : up (MH X h i S I F B T r) (mB X + 4) (iA X 6 f) = MH X h i S I F f T r := MH_up 4 (by omega) _ rfl (fun j hj hn => by match j, hj, hn with | 0, _, _ => rfl | 1, _, _ => rfl | 2, _, _ => rfl | 3, _, _ => rfl | 4, _, q => exact absurd rfl q | 5, _, _ => rfl | 6, _, _ => rfl | 7, _, _ => rfl | 8, _, _ => rfl | 9, _, _ => rfl | 10, _, _ => rfl | 11, _, _ => rfl)
theorem MHu_5 : up (MH X h i S I F B T r) (mB X + 5) (zA X 64 f) = MH X h i S I F B f r := MH_up 5 (by omega) _ rfl (fun j hj hn => by match j, hj, hn with | 0, _, _ => rfl | 1, _, _ => rfl | 2, _, _ => rfl | 3, _, _ => rfl | 4, _, _ => rfl | 5, _, q => exact absurd rfl q | 6, _, _ => rfl | 7, _, _ => rfl | 8, _, _ => rfl | 9, _, _ => rfl | 10, _, _ => rfl | 11, _, _ => rfl)
theorem MHu_6 : up (MH X h i S I F B T r) (mB X + 6) (iA X 6 f) = MH X h i S I F B T (va_up r 6 f) := MH_up 6 (by omega) _ (by simp [mcell, va_up]) (fun j hj hn => by match j, hj, hn with | 0, _, _ => rfl | 1, _, _ => rfl | 2, _, _ => rfl | 3, _, _ => rfl | 4, _, _ => rfl | 5, _, _ => rfl | 6, _, q => exact absurd rfl q | 7, _, _ => rfl | 8, _, _ => rfl | 9, _, _ => rfl | 10, _, _ => rfl | 11, _, _ => rfl)
theorem MHu_7 : up (MH X h i S I F B T r) (mB X + 7) (iA X 44 f) = MH X h i S I F B T (va_up r 7 f) := MH_up 7 (by omega) _ (by simp [mcell, va_up]) (fun j hj hn => by match j, hj, hn with | 0, _, _ => rfl | 1, _, _ => rfl | 2, _, _ => rfl | 3, _, _ => rfl | 4, _, _ => rfl | 5, _, _ => rfl | 6, _, _ => rfl | 7, _, q => exact absurd rfl q | 8, _, _ => rfl | 9, _, _ => rfl | 10, _, _ => rfl | 11, _, _ => rfl)
theorem MHu_8 : up (MH X h i S I F B T r) (mB X + 8) (iA X 4 f) = MH X h i S I F B T (va_up r 8 f) := MH_up 8 (by omega) _ (by simp [mcell, va_up]) (fun j hj hn => by match j, hj, hn with | 0, _, _ => rfl | 1, _, _ => rfl | 2, _, _ => rfl | 3, _, _ => rfl | 4, _, _ => rfl | 5, _, _ => rfl | 6, _, _ => rfl | 7, _, _ => rfl | 8, _, q => exact absurd rfl q | 9, _, _ => rfl | 10, _, _ => rfl | 11, _, _ => rfl)
theorem MHu_9 : up (MH X h i S I F B T r) (mB X + 9) (iA X 4 f) = MH X h i S I F B T (va_up r 9 f) := MH_up 9 (by omega) _ (by simp [mcell, va_up]) (fun j hj hn => by match j, hj, hn with | 0, _, _ => rfl | 1, _, _ => rfl | 2, _, _ => rfl | 3, _, _ => rfl | 4, _, _ => rfl | 5, _, _ => rfl | 6, _, _ => rfl | 7, _, _ => rfl | 8, _, _ => rfl | 9, _, q => exact absurd rfl q | 10, _, _ => rfl | 11, _, _ => rfl)
theorem MHu_10 : up (MH X h i S I F B T r) (mB X + 10) (iA X 31 f) = MH X h i S I F B T (va_up r 10 f) := MH_up 10 (by omega) _ (by simp [mcell, va_up]) (fun j hj hn => by match j, hj, hn with | 0, _, _ => rfl | 1, _, _ => rfl | 2, _, _ => rfl | 3, _, _ => rfl | 4, _, _ => rfl | 5, _, _ => rfl | 6, _, _ => rfl | 7, _, _ => rfl | 8, _, _ => rfl | 9, _, _ => rfl | 10, _, q => exact absurd rfl q | 11, _, _ => rfl)
theorem MHu_11 : up (MH X h i S I F B T r) (mB X + 11) (iA X 20 f) = MH X h i S I F B T (va_up r 11 f) := MH_up 11 (by omega) _ (by simp [mcell, va_up]) (fun j hj hn => by match j, hj, hn with | 0, _, _ => rfl | 1, _, _ => rfl | 2, _, _ => rfl | 3, _, _ => rfl | 4, _, _ => rfl | 5, _, _ => rfl | 6, _, _ => rfl | 7, _, _ => rfl | 8, _, _ => rfl | 9, _, _ => rfl | 10, _, _ => rfl | 11, _, q => exact absurd rfl q)
theorem MHu_0 {i' : Nat → Int32} : up (MH X h i S I F B T r) (mB X) (ob 12 (mfs X i')) = MH X h i' S I F B T r := MH_up 0 (by omega) _ rfl (fun j hj hn => by match j, hj, hn with | 0, _, q => exact absurd rfl q | 1, _, _ => rfl | 2, _, _ => rfl | 3, _, _ => rfl | 4, _, _ => rfl | 5, _, _ => rfl | 6, _, _ => rfl | 7, _, _ => rfl | 8, _, _ => rfl | 9, _, _ => rfl | 10, _, _ => rfl | 11, _, _ => rfl)
end MHS
theorem mfs_s4 {X : WX} {i : Nat → Int32} {x : Int32} : (mfs X i).set 4 (.int x) = mfs X (upd i 4 x) := by simp [mfs, upd]
theorem mfs_s5 {X : WX} {i : Nat → Int32} {x : Int32} : (mfs X i).set 5 (.int x) = mfs X (upd i 5 x) := by simp [mfs, upd]
theorem mfs_s6 {X : WX} {i : Nat → Int32} {x : Int32} : (mfs X i).set 6 (.int x) = mfs X (upd i 6 x) := by simp [mfs, upd]
theorem mfs_s7 {X : WX} {i : Nat → Int32} {x : Int32} : (mfs X i).set 7 (.int x) = mfs X (upd i 7 x) := by simp [mfs, upd]
theorem mfs_s8 {X : WX} {i : Nat → Int32} {x : Int32} : (mfs X i).set 8 (.int x) = mfs X (upd i 8 x) := by simp [mfs, upd]
theorem mfs_s9 {X : WX} {i : Nat → Int32} {x : Int32} : (mfs X i).set 9 (.int x) = mfs X (upd i 9 x) := by simp [mfs, upd]
theorem mfs_s12 {X : WX} {i : Nat → Int32} {x : Int32} : (mfs X i).set 12 (.int x) = mfs X (upd i 12 x) := by simp [mfs, upd]
theorem mfs_s17 {X : WX} {i : Nat → Int32} {x : Int32} : (mfs X i).set 17 (.int x) = mfs X (upd i 17 x) := by simp [mfs, upd]
theorem mfs_s20 {X : WX} {i : Nat → Int32} {x : Int32} : (mfs X i).set 20 (.int x) = mfs X (upd i 20 x) := by simp [mfs, upd]
theorem mfs_s21 {X : WX} {i : Nat → Int32} {x : Int32} : (mfs X i).set 21 (.int x) = mfs X (upd i 21 x) := by simp [mfs, upd]
theorem mfs_s22 {X : WX} {i : Nat → Int32} {x : Int32} : (mfs X i).set 22 (.int x) = mfs X (upd i 22 x) := by simp [mfs, upd]
theorem mfs_s23 {X : WX} {i : Nat → Int32} {x : Int32} : (mfs X i).set 23 (.int x) = mfs X (upd i 23 x) := by simp [mfs, upd]
theorem mfs_g0 {X : WX} {i : Nat → Int32} : (mfs X i)[0]? = some (.int (i 0)) := rfl
theorem mfs_g1 {X : WX} {i : Nat → Int32} : (mfs X i)[1]? = some (.ref (mB X + 1)) := rfl
theorem mfs_g2 {X : WX} {i : Nat → Int32} : (mfs X i)[2]? = some (.ref (mB X + 2)) := rfl
theorem mfs_g3 {X : WX} {i : Nat → Int32} : (mfs X i)[3]? = some (.ref (mB X + 3)) := rfl
theorem mfs_g4 {X : WX} {i : Nat → Int32} : (mfs X i)[4]? = some (.int (i 4)) := rfl
theorem mfs_g5 {X : WX} {i : Nat → Int32} : (mfs X i)[5]? = some (.int (i 5)) := rfl
theorem mfs_g6 {X : WX} {i : Nat → Int32} : (mfs X i)[6]? = some (.int (i 6)) := rfl
theorem mfs_g7 {X : WX} {i : Nat → Int32} : (mfs X i)[7]? = some (.int (i 7)) := rfl
theorem mfs_g8 {X : WX} {i : Nat → Int32} : (mfs X i)[8]? = some (.int (i 8)) := rfl
theorem mfs_g9 {X : WX} {i : Nat → Int32} : (mfs X i)[9]? = some (.int (i 9)) := rfl
theorem mfs_g10 {X : WX} {i : Nat → Int32} : (mfs X i)[10]? = some (.ref (mB X + 4)) := rfl
theorem mfs_g11 {X : WX} {i : Nat → Int32} : (mfs X i)[11]? = some (.ref (mB X + 5)) := rfl
theorem mfs_g12 {X : WX} {i : Nat → Int32} : (mfs X i)[12]? = some (.int (i 12)) := rfl
theorem mfs_g13 {X : WX} {i : Nat → Int32} : (mfs X i)[13]? = some (.ref (mB X + 6)) := rfl
theorem mfs_g14 {X : WX} {i : Nat → Int32} : (mfs X i)[14]? = some (.ref (mB X + 7)) := rfl
theorem mfs_g15 {X : WX} {i : Nat → Int32} : (mfs X i)[15]? = some (.ref (mB X + 8)) := rfl
theorem mfs_g16 {X : WX} {i : Nat → Int32} : (mfs X i)[16]? = some (.ref (mB X + 9)) := rfl
theorem mfs_g17 {X : WX} {i : Nat → Int32} : (mfs X i)[17]? = some (.int (i 17)) := rfl
theorem mfs_g18 {X : WX} {i : Nat → Int32} : (mfs X i)[18]? = some (.ref (mB X + 10)) := rfl
theorem mfs_g19 {X : WX} {i : Nat → Int32} : (mfs X i)[19]? = some (.ref (mB X + 11)) := rfl
theorem mfs_g20 {X : WX} {i : Nat → Int32} : (mfs X i)[20]? = some (.int (i 20)) := rfl
theorem mfs_g21 {X : WX} {i : Nat → Int32} : (mfs X i)[21]? = some (.int (i 21)) := rfl
theorem mfs_g22 {X : WX} {i : Nat → Int32} : (mfs X i)[22]? = some (.int (i 22)) := rfl
theorem mfs_g23 {X : WX} {i : Nat → Int32} : (mfs X i)[23]? = some (.int (i 23)) := rfl
theorem mfs_len {X : WX} {i : Nat → Int32} : (mfs X i).length = 24 := rfl

theorem aenv_i {n : Nat} {x : Int32} {vs : List Value} : aenv n (.int x :: vs) = some (.int x) :: aenv (n - 1) vs := rfl
theorem aenv_r {n : Nat} {x : Nat} {vs : List Value} : aenv n (.ref x :: vs) = some (.ref x) :: aenv (n - 1) vs := rfl
theorem aenv_l {n : Nat} {x : Int64} {vs : List Value} : aenv n (.long x :: vs) = some (.long x) :: none :: aenv (n - 2) vs := rfl
theorem aenv_0 {n : Nat} : aenv n [] = List.replicate n none := rfl
section MHO
variable {X : WX} {h : HM} {i : Nat → Int32} {S I F B T f : Nat → Int32} {r : Nat → Nat → Int32}
theorem onO_M {P : Nat → List Value → Prop} : onO (MH X h i S I F B T r (mB X)) P = P 12 (mfs X i) := by rw [MH_0]; rfl
theorem onI_M1 {P : Nat → (Nat → Int32) → Prop} : onI X (MH X h i S I F B T r (mB X + 1)) P = P 915 S := by rw [MH_1]; exact propext onI_iA
theorem onI_M2 {P : Nat → (Nat → Int32) → Prop} : onI X (MH X h i S I F B T r (mB X + 2)) P = P 915 I := by rw [MH_2]; exact propext onI_iA
theorem onI_M3 {P : Nat → (Nat → Int32) → Prop} : onI X (MH X h i S I F B T r (mB X + 3)) P = P 11 F := by rw [MH_3]; exact propext onI_iA
theorem onI_M4 {P : Nat → (Nat → Int32) → Prop} : onI X (MH X h i S I F B T r (mB X + 4)) P = P 6 B := by rw [MH_4]; exact propext onI_iA
theorem onI_M6 {P : Nat → (Nat → Int32) → Prop} : onI X (MH X h i S I F B T r (mB X + 6)) P = P 6 (r 6) := by rw [MH_6]; exact propext onI_iA
theorem onI_M7 {P : Nat → (Nat → Int32) → Prop} : onI X (MH X h i S I F B T r (mB X + 7)) P = P 44 (r 7) := by rw [MH_7]; exact propext onI_iA
theorem onI_M8 {P : Nat → (Nat → Int32) → Prop} : onI X (MH X h i S I F B T r (mB X + 8)) P = P 4 (r 8) := by rw [MH_8]; exact propext onI_iA
theorem onI_M9 {P : Nat → (Nat → Int32) → Prop} : onI X (MH X h i S I F B T r (mB X + 9)) P = P 4 (r 9) := by rw [MH_9]; exact propext onI_iA
theorem onI_M10 {P : Nat → (Nat → Int32) → Prop} : onI X (MH X h i S I F B T r (mB X + 10)) P = P 31 (r 10) := by rw [MH_10]; exact propext onI_iA
theorem onI_M11 {P : Nat → (Nat → Int32) → Prop} : onI X (MH X h i S I F B T r (mB X + 11)) P = P 20 (r 11) := by rw [MH_11]; exact propext onI_iA
theorem onZ_M5 {P : Nat → (Nat → Int32) → Prop} : onZ X (MH X h i S I F B T r (mB X + 5)) P = P 64 T := by rw [MH_5]; exact propext onZ_zA
theorem fI_m0 {P : Int32 → Prop} : fI (mfs X i)[0]? P = P (i 0) := rfl
theorem fR_m1 {P : Nat → Prop} : fR (mfs X i)[1]? P = P (mB X + 1) := rfl
theorem fR_m2 {P : Nat → Prop} : fR (mfs X i)[2]? P = P (mB X + 2) := rfl
theorem fR_m3 {P : Nat → Prop} : fR (mfs X i)[3]? P = P (mB X + 3) := rfl
theorem fI_m4 {P : Int32 → Prop} : fI (mfs X i)[4]? P = P (i 4) := rfl
theorem fI_m5 {P : Int32 → Prop} : fI (mfs X i)[5]? P = P (i 5) := rfl
theorem fI_m6 {P : Int32 → Prop} : fI (mfs X i)[6]? P = P (i 6) := rfl
theorem fI_m7 {P : Int32 → Prop} : fI (mfs X i)[7]? P = P (i 7) := rfl
theorem fI_m8 {P : Int32 → Prop} : fI (mfs X i)[8]? P = P (i 8) := rfl
theorem fI_m9 {P : Int32 → Prop} : fI (mfs X i)[9]? P = P (i 9) := rfl
theorem fR_m10 {P : Nat → Prop} : fR (mfs X i)[10]? P = P (mB X + 4) := rfl
theorem fR_m11 {P : Nat → Prop} : fR (mfs X i)[11]? P = P (mB X + 5) := rfl
theorem fI_m12 {P : Int32 → Prop} : fI (mfs X i)[12]? P = P (i 12) := rfl
theorem fR_m13 {P : Nat → Prop} : fR (mfs X i)[13]? P = P (mB X + 6) := rfl
theorem fR_m14 {P : Nat → Prop} : fR (mfs X i)[14]? P = P (mB X + 7) := rfl
theorem fR_m15 {P : Nat → Prop} : fR (mfs X i)[15]? P = P (mB X + 8) := rfl
theorem fR_m16 {P : Nat → Prop} : fR (mfs X i)[16]? P = P (mB X + 9) := rfl
theorem fI_m17 {P : Int32 → Prop} : fI (mfs X i)[17]? P = P (i 17) := rfl
theorem fR_m18 {P : Nat → Prop} : fR (mfs X i)[18]? P = P (mB X + 10) := rfl
theorem fR_m19 {P : Nat → Prop} : fR (mfs X i)[19]? P = P (mB X + 11) := rfl
theorem fI_m20 {P : Int32 → Prop} : fI (mfs X i)[20]? P = P (i 20) := rfl
theorem fI_m21 {P : Int32 → Prop} : fI (mfs X i)[21]? P = P (i 21) := rfl
theorem fI_m22 {P : Int32 → Prop} : fI (mfs X i)[22]? P = P (i 22) := rfl
theorem fI_m23 {P : Int32 → Prop} : fI (mfs X i)[23]? P = P (i 23) := rfl
end MHO

/-! the locals are worked out at each store -/
def fE (e : Lc) (k : Lc → Prop) (_ : Tag k) : Prop := k e
theorem fE_c {a : Option Value} {t : Lc} {k : Lc → Prop} {tg : Tag k} : fE (a :: t) k tg = k (a :: t) := rfl
theorem sI_f {i : Nat} {f : EI} {env : Lc} {σ : AH} {Kn Kb Kc : KN} {Kr : KR} : sI i f env σ Kn Kb Kc Kr = f env σ (fun x σ1 => fE (eset env i (.int x)) (fun e => Kn e σ1) (tagged _)) := rfl
theorem sL_f {i : Nat} {f : EL} {env : Lc} {σ : AH} {Kn Kb Kc : KN} {Kr : KR} : sL i f env σ Kn Kb Kc Kr = f env σ (fun x σ1 => fE (eset2 env i (.long x)) (fun e => Kn e σ1) (tagged _)) := rfl
theorem sR_f {i : Nat} {f : ER} {env : Lc} {σ : AH} {Kn Kb Kc : KN} {Kr : KR} : sR i f env σ Kn Kb Kc Kr = f env σ (fun x σ1 => fE (eset env i (.ref x)) (fun e => Kn e σ1) (tagged _)) := rfl
theorem sInc_f {i : Nat} {n : Int32} {env : Lc} {σ : AH} {Kn Kb Kc : KN} {Kr : KR} : sInc i n env σ Kn Kb Kc Kr = match env[i]? with
  | some (some (.int x)) => fE (eset env i (.int (x + n))) (fun e => Kn e σ) (tagged _)
  | _ => False := rfl
theorem eset_0 {a : Option Value} {t : Lc} {v : Value} : eset (a :: t) 0 v = some v :: t := rfl
theorem eset_1i {y : Int32} {a : Option Value} {t : Lc} {v : Value} : eset (some (.int y) :: a :: t) 1 v = some (.int y) :: some v :: t := rfl
theorem eset_1r {y : Nat} {a : Option Value} {t : Lc} {v : Value} : eset (some (.ref y) :: a :: t) 1 v = some (.ref y) :: some v :: t := rfl
theorem eset_1n {a : Option Value} {t : Lc} {v : Value} : eset (none :: a :: t) 1 v = none :: some v :: t := rfl
theorem eset_1l {y : Int64} {a : Option Value} {t : Lc} {v : Value} : eset (some (.long y) :: a :: t) 1 v = none :: some v :: t := rfl
theorem eset_ss {a b : Option Value} {t : Lc} {i : Nat} {v : Value} : eset (a :: b :: t) (i + 2) v = a :: eset (b :: t) (i + 1) v := by
  show (kill (a :: b :: t) (i + 1 + 1)).set (i + 1 + 1) (some v) = a :: (kill (b :: t) (i + 1)).set (i + 1) (some v)
  have h : kill (a :: b :: t) (i + 1 + 1) = a :: kill (b :: t) (i + 1) := by
    unfold kill
    simp only [List.getElem?_cons_succ]
    cases (b :: t)[i]? with
    | none => rfl
    | some x =>
      cases x with
      | none => rfl
      | some y => cases y <;> rfl
  rw [h, List.set_cons_succ]
