/-! rows of the small logic: fields, arrays, what is made, calls on objects, a method out of its body -/
def onO (e : Option va_E) (P : Nat → List Value → Prop) : Prop := match e with
  | some (.inr q) => P q.1 q.2
  | _ => False
def onI (X : WX) (e : Option va_E) (P : Nat → (Nat → Int32) → Prop) : Prop := ∃ (n : Nat) (f : Nat → Int32), e = some (iA X n f) ∧ P n f
def onZ (X : WX) (e : Option va_E) (P : Nat → (Nat → Int32) → Prop) : Prop := ∃ (n : Nat) (f : Nat → Int32), e = some (zA X n f) ∧ P n f
def onP (X : WX) (e : Option va_E) (P : Nat → (Nat → Option Nat) → Prop) : Prop := ∃ (n : Nat) (f : Nat → Option Nat), e = some (pA X n f) ∧ P n f
theorem onO_ob {ci : Nat} {fs : List Value} {P : Nat → List Value → Prop} : onO (some (ob ci fs)) P = P ci fs := rfl
theorem onI_iA {X : WX} {n : Nat} {f : Nat → Int32} {P : Nat → (Nat → Int32) → Prop} : onI X (some (iA X n f)) P ↔ P n f := by
  constructor
  · rintro ⟨n', f', e, h⟩
    injection e with e; injection e with e; injection e with e1 e2; injection e2 with e2 e3; injection e3 with e3
    subst e2; subst e3; exact h
  · intro h; exact ⟨n, f, rfl, h⟩
theorem onZ_zA {X : WX} {n : Nat} {f : Nat → Int32} {P : Nat → (Nat → Int32) → Prop} : onZ X (some (zA X n f)) P ↔ P n f := by
  constructor
  · rintro ⟨n', f', e, h⟩
    injection e with e; injection e with e; injection e with e1 e2; injection e2 with e2 e3; injection e3 with e3
    subst e2; subst e3; exact h
  · intro h; exact ⟨n, f, rfl, h⟩
theorem onP_pA {X : WX} {n : Nat} {f : Nat → Option Nat} {P : Nat → (Nat → Option Nat) → Prop} : onP X (some (pA X n f)) P ↔ P n f := by
  constructor
  · rintro ⟨n', f', e, h⟩
    injection e with e; injection e with e; injection e with e1 e2; injection e2 with e2 e3; injection e3 with e3; injection e3 with e3; injection e3 with e3; injection e3 with e3
    subst e2; subst e3; exact h
  · intro h; exact ⟨n, f, rfl, h⟩
theorem HR.set {X : WX} {h : HM} {H H1 : Heap} {a : Nat} {e : va_E} (hH : HR X h H) (ho : ∀ q : Nat, q ≠ a → H1[q]? = H[q]?) (hb : X.2.2.2.1 ≤ a) (he : va_at X.2.1 classes (a, e) H1) : HR X (up h a e) H1 := by
  intro b e' hbe
  unfold up at hbe
  by_cases q : b = a
  · rw [if_pos q] at hbe; cases hbe; subst q; exact ⟨hb, he⟩
  · rw [if_neg q] at hbe
    exact ⟨(hH b e' hbe).1, (hH b e' hbe).2.kept (ho b q)⟩
theorem HR.new {X : WX} {h : HM} {H H1 : Heap} {a : Nat} {e : va_E} (hH : HR X h H) (hn : H.size = a) (ho : ∀ q : Nat, q < a → H1[q]? = H[q]?) (hb : X.2.2.2.1 ≤ a) (he : va_at X.2.1 classes (a, e) H1) : HR X (up h a e) H1 := by
  intro b e' hbe
  unfold up at hbe
  by_cases q : b = a
  · rw [if_pos q] at hbe; cases hbe; subst q; exact ⟨hb, he⟩
  · rw [if_neg q] at hbe
    have hl := (hH b e' hbe).2.lt
    exact ⟨(hH b e' hbe).1, (hH b e' hbe).2.kept (ho b (by rw [← hn]; exact hl))⟩
theorem HR.one {X : WX} {h : HM} {H : Heap} {a : Nat} {e : va_E} (hH : HR X h H) (he : h a = some e) : va_P X.2.1 classes [(a, e)] H := by
  intro k q hk
  match k, hk with
  | 0, hk => cases hk; exact (hH a e he).2
  | n + 1, hk => simp at hk
theorem S_new {X : WX} {H0 H H1 : Heap} {locs : List Loc} (hS : va_S (AX X) H0 H locs) (hz : H1.size = H.size + 1) (ho : ∀ q : Nat, q < H.size → H1[q]? = H[q]?) : va_S (AX X) H0 H1 locs :=
  ⟨Nat.le_trans hS.1 (by omega), fun x h1 h2 => (ho x (Nat.lt_of_lt_of_le h1 hS.1)).trans (hS.2.1 x h1 h2), hS.2.2⟩
/-- a field of objects of some classes, as an instruction names it: readable -/
def GOK (own : String) (idx k : Nat) (cs : List Nat) : Prop := ∀ ci ∈ cs, ∃ (C : String) (T : u_T) (N : Nat) (ref : String), classes[ci]? = some (C, T, N) ∧ k < N ∧ (∀ w ∈ u_ws C T N, w ∈ lw_good) ∧ Cond.fieldLink own idx ref (T k).2.1 (T k).2.2.1 ∈ lw_good ∧ (ref = (T k).1 ∨ Cond.sameField ref (T k).1 (T k).2.1 (T k).2.2.1 ∈ lw_good)
/-- the same, writable, of this type -/
def POK (own : String) (idx k : Nat) (cs : List Nat) (ty : FieldType) (ini : Bool) : Prop := ∀ ci ∈ cs, ∃ (C : String) (T : u_T) (N : Nat) (ref : String) (t0 : Nat → FieldType), classes[ci]? = some (C, T, N) ∧ k < N ∧ (∀ w ∈ u_ws C T N, w ∈ lw_good) ∧ (∀ j, j < N → parseFieldDescriptor (T j).2.2.1 = some (t0 j)) ∧ (∀ a, a < N → ∀ b, b < N → a ≠ b → (T a).2.1 ≠ (T b).2.1) ∧ Cond.fieldLink own idx ref (T k).2.1 (T k).2.2.1 ∈ lw_good ∧ (ref = (T k).1 ∨ Cond.sameField ref (T k).1 (T k).2.1 (T k).2.2.1 ∈ lw_good) ∧ parseFieldDescriptor (T k).2.2.1 = some ty ∧ ((T k).2.2.2 = false ∨ (ini = true ∧ (T k).1 = own ∧ (T k).2.2.2 = true))
def fI (v : Option Value) (P : Int32 → Prop) : Prop := match v with
  | some (.int x) => P x
  | _ => False
def fR (v : Option Value) (P : Nat → Prop) : Prop := match v with
  | some (.ref x) => P x
  | _ => False
def fO (v : Option Value) (P : Option Nat → Prop) : Prop := match v with
  | some (.ref x) => P (some x)
  | some .null => P none
  | _ => False
def xg (cs : List Nat) (k : Nat) (f : ER) : EI := fun env σ K => f env σ (fun a σ1 => onO (σ1.1 a) (fun ci fs => ci ∈ cs ∧ fI fs[k]? (fun x => K x σ1)))
def xgR (cs : List Nat) (k : Nat) (f : ER) : ER := fun env σ K => f env σ (fun a σ1 => onO (σ1.1 a) (fun ci fs => ci ∈ cs ∧ fR fs[k]? (fun x => K x σ1)))
/-- a reference that may be null -/
abbrev EO : Type := Lc → AH → (Option Nat → AH → Prop) → Prop
def FEO (X : WX) (own : String) (cc : ByteArray) (nL : Nat) (rt : Option FieldType) (ini : Bool) (R : Room) (k pc pc' : Nat) (f : EO) : Prop := ∀ (r : RX), Act X own cc nL rt ini r → ∀ (env : Lc) (σ : AH) (st : List Value) (K : Option Nat → AH → Prop), cats st ≤ k → f env σ K → (∀ v σ', K v σ' → WA X nL R r pc' env (va_rf v :: st) σ') → WA X nL R r pc env st σ
def xgO (cs : List Nat) (k : Nat) (f : ER) : EO := fun env σ K => f env σ (fun a σ1 => onO (σ1.1 a) (fun ci fs => ci ∈ cs ∧ fO fs[k]? (fun x => K x σ1)))
def oR (f : ER) : EO := fun env σ K => f env σ (fun a σ1 => K (some a) σ1)
def oN : EO := fun _ σ K => K none σ
def cEqO (f g : EO) : EC := fun env σ Kt Kf => f env σ (fun x σ1 => g env σ1 (fun y σ2 => (x = y → Kt σ2) ∧ (¬ x = y → Kf σ2)))
def xald (X : WX) (f : ER) (g : EI) : EI := fun env σ K => f env σ (fun a σ1 => g env σ1 (fun i σ2 => onI X (σ2.1 a) (fun n t => vp_in i n ∧ K (t i.toNatClampNeg) σ2)))
def xzld (X : WX) (f : ER) (g : EI) : EI := fun env σ K => f env σ (fun a σ1 => g env σ1 (fun i σ2 => onZ X (σ2.1 a) (fun n t => vp_in i n ∧ K (t i.toNatClampNeg) σ2)))
def fS (v : Option Nat) (P : Nat → Prop) : Prop := match v with
  | some x => P x
  | none => False
def xpld (X : WX) (f : ER) (g : EI) : ER := fun env σ K => f env σ (fun a σ1 => g env σ1 (fun i σ2 => onP X (σ2.1 a) (fun n t => vp_in i n ∧ fS (t i.toNatClampNeg) (fun b => K b σ2))))
def sast (X : WX) (f : ER) (g e : EI) : ST := fun env σ Kn _ _ _ => f env σ (fun a σ1 => g env σ1 (fun i σ2 => e env σ2 (fun x σ3 => onI X (σ3.1 a) (fun n t => vp_in i n ∧ Kn env (up σ3.1 a (iA X n (upd t i.toNatClampNeg x)), σ3.2)))))
/-- a[i] op= e -/
def sastC (X : WX) (op : Int32 → Int32 → Int32) (f : ER) (g e : EI) : ST := fun env σ Kn _ _ _ => f env σ (fun a σ1 => g env σ1 (fun i σ2 => onI X (σ2.1 a) (fun n0 t0 => vp_in i n0 ∧ e env σ2 (fun x σ3 => onI X (σ3.1 a) (fun n t => vp_in i n ∧ Kn env (up σ3.1 a (iA X n (upd t i.toNatClampNeg (op (t0 i.toNatClampNeg) x))), σ3.2))))))
def szst (X : WX) (f : ER) (g e : EI) : ST := fun env σ Kn _ _ _ => f env σ (fun a σ1 => g env σ1 (fun i σ2 => e env σ2 (fun x σ3 => onZ X (σ3.1 a) (fun n t => vp_in i n ∧ (x = 0 ∨ x = 1) ∧ Kn env (up σ3.1 a (zA X n (upd t i.toNatClampNeg x)), σ3.2)))))
def spst (X : WX) (f : ER) (g : EI) (e : ER) : ST := fun env σ Kn _ _ _ => f env σ (fun a σ1 => g env σ1 (fun i σ2 => e env σ2 (fun x σ3 => onP X (σ3.1 a) (fun n t => vp_in i n ∧ onO (σ3.1 x) (fun ci _ => ci ∈ [4, 5, 6, 7, 8, 9, 10]) ∧ Kn env (up σ3.1 a (pA X n (va_up t i.toNatClampNeg (some x))), σ3.2)))))
def sput (cs : List Nat) (k : Nat) (o : ER) (e : EI) : ST := fun env σ Kn _ _ _ => o env σ (fun a σ1 => e env σ1 (fun x σ2 => onO (σ2.1 a) (fun ci fs => ci ∈ cs ∧ k < fs.length ∧ Kn env (up σ2.1 a (ob ci (fs.set k (.int x))), σ2.2))))
def sputZ (cs : List Nat) (k : Nat) (o : ER) (e : EI) : ST := fun env σ Kn _ _ _ => o env σ (fun a σ1 => e env σ1 (fun x σ2 => onO (σ2.1 a) (fun ci fs => ci ∈ cs ∧ k < fs.length ∧ (x = 0 ∨ x = 1) ∧ Kn env (up σ2.1 a (ob ci (fs.set k (.int x))), σ2.2))))
def sputR (cs : List Nat) (k : Nat) (o e : ER) : ST := fun env σ Kn _ _ _ => o env σ (fun a σ1 => e env σ1 (fun x σ2 => onO (σ2.1 a) (fun ci fs => ci ∈ cs ∧ k < fs.length ∧ Kn env (up σ2.1 a (ob ci (fs.set k (.ref x))), σ2.2))))
def sputN (cs : List Nat) (k : Nat) (o : ER) : ST := fun env σ Kn _ _ _ => o env σ (fun a σ2 => onO (σ2.1 a) (fun ci fs => ci ∈ cs ∧ k < fs.length ∧ Kn env (up σ2.1 a (ob ci (fs.set k .null)), σ2.2)))
/-- o.f op= e -/
def sputC (cs : List Nat) (k : Nat) (op : Int32 → Int32 → Int32) (o : ER) (e : EI) : ST := fun env σ Kn _ _ _ => o env σ (fun a σ1 => onO (σ1.1 a) (fun ci0 fs0 => ci0 ∈ cs ∧ fI fs0[k]? (fun x0 => e env σ1 (fun x σ2 => onO (σ2.1 a) (fun ci fs => ci ∈ cs ∧ k < fs.length ∧ Kn env (up σ2.1 a (ob ci (fs.set k (.int (op x0 x)))), σ2.2))))))
section HEAPROWS
variable {X : WX} {own : String} {cc : ByteArray} {nL : Nat} {rt : Option FieldType} {ini : Bool} {R : Room} {k pc p1 p2 p3 pt pf pb pq pe : Nat}
theorem wa_get {r : RX} (A : Act X own cc nL rt ini r) {idx kf a ci : Nat} {cs : List Nat} (hg : GOK own idx kf cs) {env : Lc} {σ : AH} {st : List Value} {fs : List Value} (hf : σ.1 a = some (ob ci fs)) (hc : ci ∈ cs) {v : Value} (hv : fs[kf]? = some v) (hd : decode cc pc = .ok (.getfield idx, 3)) (hK : WA X nL R r (pc + 3) env (v :: st) σ) : WA X nL R r pc env (.ref a :: st) σ := by
  intro H locs ls hH hn hS hl he
  obtain ⟨C, T, N, ref, g1, g2, g3, g4, g5⟩ := hg ci hc
  refine va_get (q0 := 0) (ref := ref) A.1 A.2.1 A.2.2.2.2.2.1 g3 A.2.2.2.2.1 A.2.2.2.2.2.2.1 (hH.one hf) rfl g1 kf g2 (A.2.2.2.2.2.1 _ g4) ?_ hv hd (hK H locs ls hH hn hS hl he)
  rcases g5 with rfl | g5
  · exact fun _ h => h
  · exact u_same (A.2.2.2.2.2.1 _ g5)
theorem r_g {f : ER} {idx kf : Nat} {cs : List Nat} (h1 : FER X own cc nL rt ini R k pc p1 f) (hg : GOK own idx kf cs) (hd : decode cc p1 = .ok (.getfield idx, 3)) : FEI X own cc nL rt ini R k pc (p1 + 3) (xg cs kf f) := by
  intro r A env σ st K hk hf hK
  refine h1 r A env σ st _ hk hf (fun a σ1 ha => ?_)
  unfold onO at ha
  split at ha
  · rename_i q hq
    obtain ⟨ci, fs⟩ := q
    obtain ⟨hc, hv⟩ := ha
    unfold fI at hv
    split at hv
    · rename_i x hx
      exact wa_get A hg hq hc hx hd (hK _ _ hv)
    · exact hv.elim
  · exact ha.elim
theorem r_gR {f : ER} {idx kf : Nat} {cs : List Nat} (h1 : FER X own cc nL rt ini R k pc p1 f) (hg : GOK own idx kf cs) (hd : decode cc p1 = .ok (.getfield idx, 3)) : FER X own cc nL rt ini R k pc (p1 + 3) (xgR cs kf f) := by
  intro r A env σ st K hk hf hK
  refine h1 r A env σ st _ hk hf (fun a σ1 ha => ?_)
  unfold onO at ha
  split at ha
  · rename_i q hq
    obtain ⟨ci, fs⟩ := q
    obtain ⟨hc, hv⟩ := ha
    unfold fR at hv
    split at hv
    · rename_i x hx
      exact wa_get A hg hq hc hx hd (hK _ _ hv)
    · exact hv.elim
  · exact ha.elim
theorem r_gO {f : ER} {idx kf : Nat} {cs : List Nat} (h1 : FER X own cc nL rt ini R k pc p1 f) (hg : GOK own idx kf cs) (hd : decode cc p1 = .ok (.getfield idx, 3)) : FEO X own cc nL rt ini R k pc (p1 + 3) (xgO cs kf f) := by
  intro r A env σ st K hk hf hK
  refine h1 r A env σ st _ hk hf (fun a σ1 ha => ?_)
  unfold onO at ha
  split at ha
  · rename_i q hq
    obtain ⟨ci, fs⟩ := q
    obtain ⟨hc, hv⟩ := ha
    unfold fO at hv
    split at hv
    · rename_i x hx
      exact wa_get A hg hq hc hx hd (hK _ _ hv)
    · rename_i hx
      exact wa_get A hg hq hc hx hd (hK _ _ hv)
    · exact hv.elim
  · exact ha.elim
theorem o_R {f : ER} (h1 : FER X own cc nL rt ini R k pc p1 f) : FEO X own cc nL rt ini R k pc p1 (oR f) := fun r A env σ st K hk hf hK => h1 r A env σ st _ hk hf (fun a σ1 z => hK _ _ z)
theorem va_rf_cat (v : Option Nat) : (va_rf v).category = 1 := by cases v <;> rfl
theorem c_eqo_t {f g : EO} {off : Int} {tgt : Nat} (h1 : FEO X own cc nL rt ini R k pc p1 f) (h2 : FEO X own cc nL rt ini R (k + 1) p1 p2 g) (hd : decode cc p2 = .ok (.if_acmp .eq off, 3)) (ht : (p2 : Int) + off = (tgt : Int)) : FEC X own cc nL rt ini R k pc tgt (p2 + 3) (cEqO f g) := by
  intro r A env σ st Kt Kf hk hf g1 g2
  refine h1 r A env σ st _ hk hf (fun x σ1 hx => ?_)
  refine h2 r A env σ1 (va_rf x :: st) _ (by rw [cats_cons, va_rf_cat]; omega) hx (fun y σ2 hy => ?_)
  intro H locs ls hH hn hS hl he
  exact lv_acmp_eq A.1 A.2.1 hd ht (fun c => g1 _ (hy.1 c) H locs ls hH hn hS hl he) (fun c => g2 _ (hy.2 c) H locs ls hH hn hS hl he)
theorem c_eqo_f {f g : EO} {off : Int} {tgt : Nat} (h1 : FEO X own cc nL rt ini R k pc p1 f) (h2 : FEO X own cc nL rt ini R (k + 1) p1 p2 g) (hd : decode cc p2 = .ok (.if_acmp .ne off, 3)) (ht : (p2 : Int) + off = (tgt : Int)) : FEC X own cc nL rt ini R k pc (p2 + 3) tgt (cEqO f g) := by
  intro r A env σ st Kt Kf hk hf g1 g2
  refine h1 r A env σ st _ hk hf (fun x σ1 hx => ?_)
  refine h2 r A env σ1 (va_rf x :: st) _ (by rw [cats_cons, va_rf_cat]; omega) hx (fun y σ2 hy => ?_)
  intro H locs ls hH hn hS hl he
  exact lv_acmp_ne A.1 A.2.1 hd ht (fun c => g2 _ (hy.2 c) H locs ls hH hn hS hl he) (fun c => g1 _ (hy.1 c) H locs ls hH hn hS hl he)
/-- writing a field -/
theorem wa_put {r : RX} (A : Act X own cc nL rt ini r) {idx kf a ci : Nat} {cs : List Nat} {ty : FieldType} (hg : POK own idx kf cs ty ini) {env : Lc} {σ : AH} {st : List Value} {fs : List Value} (hf : σ.1 a = some (ob ci fs)) (hc : ci ∈ cs) {v : Value} (hl : kf < fs.length) (hnr : narrow ty v = v) (hfit : fits ty v = true) (hd : decode cc pc = .ok (.putfield idx, 3)) (hK : WA X nL R r (pc + 3) env st (up σ.1 a (ob ci (fs.set kf v)), σ.2)) : WA X nL R r pc env (v :: .ref a :: st) σ := by
  intro H locs ls hH hn hS hll he
  obtain ⟨C, T, N, ref, t0, g1, g2, g3, g4, g5, g6, g7, g8, g9⟩ := hg ci hc
  have hts := A.2.2.2.2.2.1
  have hKK := A.2.2.2.2.2.2.1
  have hap := va_apart (own := own) (cl := classes) hts g3 t0 g4 g5 hKK g1
  obtain ⟨hba, w, h1, cell, q1, q2, q3, q4⟩ := hH a _ hf
  have hw : w = (C, T, N) := Option.some.inj (h1.symm.trans g1)
  subst hw
  obtain ⟨hSl, hfc, kC, hkC, hkind⟩ := hKK.1 ci _ g1
  obtain ⟨cf, kf', fi, f, hi, hsl⟩ := hSl kf g2
  have hsame : r.2.2.1.fieldFound? ref (T kf).2.1 (T kf).2.2.1 = some (cf, kf', fi, f) := by
    rcases g7 with rfl | g7
    · exact hi
    · exact u_same (hts _ g7) _ hi
  have hst := (u_facts hfc hkC (u_lays hts g3 g2) hi).1
  have fin : ∀ H' : Heap, H'[a]? = some (cell.setSlot f.slot v) → H'.size = H.size → (∀ q, q ≠ a → H'[q]? = H[q]?) → HR X (up σ.1 a (ob ci (fs.set kf v))) H' := by
    intro H' e1 e2 e3
    rw [hsl] at e1
    exact hH.set e3 hba ⟨_, h1, t_OB.to (V := updV (vp_V fs) kf v) ⟨_, e1, q2, q3, t_set q4 hap g2 v⟩ (fun j _ => vp_updV_set hl v j)⟩
  have hlay := hts _ (g3 _ (u_in_lay g2))
  unfold u_lay at hlay
  rcases g9 with hfin | ⟨hini, hdecl, hfin⟩
  · rw [if_neg (by rw [hfin]; decide)] at hlay
    have h6 := u_store hfc hkC hkind hlay hi g8 hnr hfit
    refine W.putK A.1 A.2.1 (f := f) ⟨A.2.2.2.2.1, hts _ g6, ⟨_, _, _, hsame⟩, hst⟩ (by rw [q2]; exact h6) q1 q3 (by rw [hsl]; exact k2_hasslot (q4 kf g2)) rfl rfl hd fun H' e1 e2 e3 => ?_
    exact hK H' _ ls (fin H' e1 e2 e3) (by rw [e2]; exact hn) (hS.put e2 e3 hba) hll he
  · rw [if_pos hfin] at hlay
    have hcf : r.2.2.2.1.cls = cf := by
      obtain ⟨_, _, c', _, _, _, -, -, hf', -, -, -, hown2, -⟩ := Cond.laysFinal_spec hlay
      have e1 : c' = cf := by have := hi.symm.trans hf'; simp at this; exact this.1.symm
      rw [hdecl] at hown2
      rw [← e1]; exact Option.some.inj (A.2.2.2.2.1.symm.trans hown2)
    have h6 := u_fits hfc hkC hkind (Or.inr hlay) hi g8 hnr hfit
    refine W.putFinK A.1 A.2.1 A.2.2.2.2.1 (hts _ g6) hsame hst hcf (A.2.2.2.2.2.2.2.2.1 hini) (by rw [q2]; exact h6) q1 q3 (by rw [hsl]; exact k2_hasslot (q4 kf g2)) rfl rfl hd fun H' e1 e2 e3 => ?_
    exact hK H' _ ls (fin H' e1 e2 e3) (by rw [e2]; exact hn) (hS.put e2 e3 hba) hll he
theorem s_put {o : ER} {e : EI} {idx kf : Nat} {cs : List Nat} (h1 : FER X own cc nL rt ini R 0 pc p1 o) (h2 : FEI X own cc nL rt ini R 1 p1 p2 e) (hg : POK own idx kf cs .int ini) (hd : decode cc p2 = .ok (.putfield idx, 3)) : FS X own cc nL rt ini R pc (p2 + 3) pb pq (sput cs kf o e) := by
  intro r A env σ Kn Kb Kc Kr hf g1 g2 g3 g4
  refine h1 r A env σ [] _ (Nat.le_refl 0) hf (fun a σ1 ha => ?_)
  refine h2 r A env σ1 [.ref a] _ (Nat.le_refl _) ha (fun x σ2 hx => ?_)
  unfold onO at hx
  split at hx
  · rename_i q hq
    obtain ⟨ci, fs⟩ := q
    obtain ⟨z1, z2, z3⟩ := hx
    exact wa_put A hg hq z1 z2 rfl rfl hd (g1 _ _ z3)
  · exact hx.elim
theorem s_putZ {o : ER} {e : EI} {idx kf : Nat} {cs : List Nat} (h1 : FER X own cc nL rt ini R 0 pc p1 o) (h2 : FEI X own cc nL rt ini R 1 p1 p2 e) (hg : POK own idx kf cs .boolean ini) (hd : decode cc p2 = .ok (.putfield idx, 3)) : FS X own cc nL rt ini R pc (p2 + 3) pb pq (sputZ cs kf o e) := by
  intro r A env σ Kn Kb Kc Kr hf g1 g2 g3 g4
  refine h1 r A env σ [] _ (Nat.le_refl 0) hf (fun a σ1 ha => ?_)
  refine h2 r A env σ1 [.ref a] _ (Nat.le_refl _) ha (fun x σ2 hx => ?_)
  unfold onO at hx
  split at hx
  · rename_i q hq
    obtain ⟨ci, fs⟩ := q
    obtain ⟨z1, z2, z3, z4⟩ := hx
    exact wa_put A hg hq z1 z2 (by rcases z3 with rfl | rfl <;> rfl) (by rcases z3 with rfl | rfl <;> rfl) hd (g1 _ _ z4)
  · exact hx.elim
theorem s_putR {o e : ER} {idx kf : Nat} {cs : List Nat} {ty : FieldType} (hty : (∃ n, ty = .object n) ∨ ∃ t, ty = .array t) (h1 : FER X own cc nL rt ini R 0 pc p1 o) (h2 : FER X own cc nL rt ini R 1 p1 p2 e) (hg : POK own idx kf cs ty ini) (hd : decode cc p2 = .ok (.putfield idx, 3)) : FS X own cc nL rt ini R pc (p2 + 3) pb pq (sputR cs kf o e) := by
  intro r A env σ Kn Kb Kc Kr hf g1 g2 g3 g4
  refine h1 r A env σ [] _ (Nat.le_refl 0) hf (fun a σ1 ha => ?_)
  refine h2 r A env σ1 [.ref a] _ (Nat.le_refl _) ha (fun x σ2 hx => ?_)
  unfold onO at hx
  split at hx
  · rename_i q hq
    obtain ⟨ci, fs⟩ := q
    obtain ⟨z1, z2, z3⟩ := hx
    exact wa_put A hg hq z1 z2 (by rcases hty with ⟨n, rfl⟩ | ⟨t, rfl⟩ <;> rfl) (by rcases hty with ⟨n, rfl⟩ | ⟨t, rfl⟩ <;> rfl) hd (g1 _ _ z3)
  · exact hx.elim
theorem s_putN {o : ER} {idx kf : Nat} {cs : List Nat} {ty : FieldType} (hty : (∃ n, ty = .object n) ∨ ∃ t, ty = .array t) (h1 : FER X own cc nL rt ini R 0 pc p1 o) (hd0 : decode cc p1 = .ok (.aconst_null, 1)) (hg : POK own idx kf cs ty ini) (hd : decode cc (p1 + 1) = .ok (.putfield idx, 3)) : FS X own cc nL rt ini R pc (p1 + 1 + 3) pb pq (sputN cs kf o) := by
  intro r A env σ Kn Kb Kc Kr hf g1 g2 g3 g4
  refine h1 r A env σ [] _ (Nat.le_refl 0) hf (fun a σ2 hx => ?_)
  unfold onO at hx
  split at hx
  · rename_i q hq
    obtain ⟨ci, fs⟩ := q
    obtain ⟨z1, z2, z3⟩ := hx
    have hw := wa_put (R := R) (nL := nL) (st := []) A hg hq z1 (v := .null) z2 (by rcases hty with ⟨n, rfl⟩ | ⟨t, rfl⟩ <;> rfl) (by rcases hty with ⟨n, rfl⟩ | ⟨t, rfl⟩ <;> rfl) hd (g1 _ _ z3)
    intro H locs ls hH hn hS hl he
    exact lv_null A.1 A.2.1 hd0 (hw H locs ls hH hn hS hl he)
  · exact hx.elim
theorem s_putC {o : ER} {e : EI} {idx kf : Nat} {cs : List Nat} {op : Int32 → Int32 → Int32} {bop : Instr} (hop : (bop = .iadd ∧ op = fun x y => x + y) ∨ (bop = .isub ∧ op = fun x y => x - y)) (h1 : FER X own cc nL rt ini R 0 pc p1 o) (hd0 : decode cc p1 = .ok (.dup, 1)) (hd1 : decode cc (p1 + 1) = .ok (.getfield idx, 3)) (hg0 : GOK own idx kf cs) (h2 : FEI X own cc nL rt ini R 2 (p1 + 1 + 3) p2 e) (hd2 : decode cc p2 = .ok (bop, 1)) (hg : POK own idx kf cs .int ini) (hd : decode cc (p2 + 1) = .ok (.putfield idx, 3)) : FS X own cc nL rt ini R pc (p2 + 1 + 3) pb pq (sputC cs kf op o e) := by
  intro r A env σ Kn Kb Kc Kr hf g1 g2 g3 g4
  refine h1 r A env σ [] _ (Nat.le_refl 0) hf (fun a σ1 hx => ?_)
  unfold onO at hx
  split at hx
  · rename_i q hq
    obtain ⟨ci, fs⟩ := q
    obtain ⟨z1, z2⟩ := hx
    unfold fI at z2
    split at z2
    · rename_i x0 hx0
      have hw : WA X nL R r (p1 + 1) env [.ref a, .ref a] σ1 := by
        refine wa_get A hg0 hq z1 hx0 hd1 ?_
        refine h2 r A env σ1 [.int x0, .ref a] _ (Nat.le_refl _) z2 (fun x σ2 hx => ?_)
        unfold onO at hx
        split at hx
        · rename_i q2 hq2
          obtain ⟨ci2, fs2⟩ := q2
          obtain ⟨y1, y2, y3⟩ := hx
          have hw2 := wa_put (R := R) (nL := nL) (st := []) A hg hq2 y1 (v := .int (op x0 x)) y2 rfl rfl hd (g1 _ _ y3)
          intro H locs ls hH hn hS hl he
          rcases hop with ⟨rfl, rfl⟩ | ⟨rfl, rfl⟩
          · exact lv_iadd A.1 A.2.1 hd2 (hw2 H locs ls hH hn hS hl he)
          · exact lv_isub A.1 A.2.1 hd2 (hw2 H locs ls hH hn hS hl he)
        · exact hx.elim
      intro H locs ls hH hn hS hl he
      exact lv_dup A.1 A.2.1 hd0 rfl (hw H locs ls hH hn hS hl he)
    · exact z2.elim
  · exact hx.elim
end HEAPROWS
