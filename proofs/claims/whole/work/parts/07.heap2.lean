/-! rows of the small logic: arrays; what is made; calls on objects; a method out of its body -/
section ARR
variable {X : WX} {own : String} {cc : ByteArray} {nL : Nat} {rt : Option FieldType} {ini : Bool} {R : Room} {k pc p1 p2 p3 pt pf pb pq pe : Nat}
theorem wa_iald {r : RX} (A : Act X own cc nL rt ini r) {env : Lc} {σ : AH} {st : List Value} {a n : Nat} {t : Nat → Int32} {i : Int32} (ha : σ.1 a = some (iA X n t)) (hin : vp_in i n) (hd : decode cc pc = .ok (.iaload, 1)) (hK : WA X nL R r (pc + 1) env (.int (t i.toNatClampNeg) :: st) σ) : WA X nL R r pc env (.int i :: .ref a :: st) σ := fun H locs ls hH hn hS hl he =>
  va_iald A.1 A.2.1 A.2.2.2.2.2.2.1 (hH.one ha) 0 0 rfl rfl hin hd (hK H locs ls hH hn hS hl he)
theorem r_ald {f : ER} {g : EI} (h1 : FER X own cc nL rt ini R k pc p1 f) (h2 : FEI X own cc nL rt ini R (k + 1) p1 p2 g) (hd : decode cc p2 = .ok (.iaload, 1)) : FEI X own cc nL rt ini R k pc (p2 + 1) (xald X f g) := by
  intro r A env σ st K hk hf hK
  refine h1 r A env σ st _ hk hf (fun a σ1 ha => ?_)
  refine h2 r A env σ1 (.ref a :: st) _ (cats_r hk) ha (fun i σ2 hi => ?_)
  obtain ⟨n, t, e, z1, z2⟩ := hi
  exact wa_iald A e z1 hd (hK _ _ z2)
theorem r_zld {f : ER} {g : EI} (h1 : FER X own cc nL rt ini R k pc p1 f) (h2 : FEI X own cc nL rt ini R (k + 1) p1 p2 g) (hd : decode cc p2 = .ok (.baload, 1)) : FEI X own cc nL rt ini R k pc (p2 + 1) (xzld X f g) := by
  intro r A env σ st K hk hf hK
  refine h1 r A env σ st _ hk hf (fun a σ1 ha => ?_)
  refine h2 r A env σ1 (.ref a :: st) _ (cats_r hk) ha (fun i σ2 hi => ?_)
  obtain ⟨n, t, e, z1, z2⟩ := hi
  intro H locs ls hH hn hS hl he
  exact va_zald A.1 A.2.1 A.2.2.2.2.2.2.1 (hH.one e) 0 1 rfl rfl z1 hd (hK _ _ z2 H locs ls hH hn hS hl he)
theorem r_pld {f : ER} {g : EI} (h1 : FER X own cc nL rt ini R k pc p1 f) (h2 : FEI X own cc nL rt ini R (k + 1) p1 p2 g) (hd : decode cc p2 = .ok (.aaload, 1)) : FER X own cc nL rt ini R k pc (p2 + 1) (xpld X f g) := by
  intro r A env σ st K hk hf hK
  refine h1 r A env σ st _ hk hf (fun a σ1 ha => ?_)
  refine h2 r A env σ1 (.ref a :: st) _ (cats_r hk) ha (fun i σ2 hi => ?_)
  obtain ⟨n, t, e, z1, z2⟩ := hi
  unfold fS at z2
  split at z2
  · rename_i b hb
    intro H locs ls hH hn hS hl he
    refine va_aldq A.1 A.2.1 A.2.2.2.2.2.2.1 (hH.one e) 0 2 rfl rfl z1 hd ?_
    rw [hb]
    exact hK _ _ z2 H locs ls hH hn hS hl he
  · exact z2.elim
theorem wa_iast {r : RX} (A : Act X own cc nL rt ini r) {env : Lc} {σ : AH} {st : List Value} {a n : Nat} {t : Nat → Int32} {i x : Int32} (ha : σ.1 a = some (iA X n t)) (hin : vp_in i n) (hd : decode cc pc = .ok (.iastore, 1)) (hK : WA X nL R r (pc + 1) env st (up σ.1 a (iA X n (upd t i.toNatClampNeg x)), σ.2)) : WA X nL R r pc env (.int x :: .int i :: .ref a :: st) σ := by
  intro H locs ls hH hn hS hl he
  refine W.iast A.1 A.2.1 (hH a _ ha).2 ((A.2.2.2.2.2.2.1.2 0 _ rfl).1 n (fun j => .int (t j))) (fun q => by cases q) (by show ¬ (i < 0 ∨ (arrV _ _ _).slots.size ≤ _); rw [arrV_size]; exact hin) rfl rfl hd fun H1 e z oq => ?_
  refine hK H1 _ ls (hH.set oq (hH a _ ha).1 ?_) (z.trans hn) (hS.put z oq (hH a _ ha).1) hl he
  show H1[a]? = some (vp_cell _ _)
  rw [e]
  rw [vp_cell_i, vp_cell_i, arrV_store]
  congr 2
  funext q
  by_cases hq : q = i.toNatClampNeg
  · subst hq; simp [updV, upd]
  · simp [updV, upd, hq]
theorem s_ast {f : ER} {g e : EI} (h1 : FER X own cc nL rt ini R 0 pc p1 f) (h2 : FEI X own cc nL rt ini R 1 p1 p2 g) (h3 : FEI X own cc nL rt ini R 2 p2 p3 e) (hd : decode cc p3 = .ok (.iastore, 1)) : FS X own cc nL rt ini R pc (p3 + 1) pb pq (sast X f g e) := by
  intro r A env σ Kn Kb Kc Kr hf g1 g2 g3 g4
  refine h1 r A env σ [] _ (Nat.le_refl 0) hf (fun a σ1 ha => ?_)
  refine h2 r A env σ1 [.ref a] _ (Nat.le_refl _) ha (fun i σ2 hi => ?_)
  refine h3 r A env σ2 [.int i, .ref a] _ (Nat.le_refl _) hi (fun x σ3 hx => ?_)
  obtain ⟨n, t, e, z1, z2⟩ := hx
  exact wa_iast A e z1 hd (g1 _ _ z2)
theorem s_astC {f : ER} {g e : EI} {op : Int32 → Int32 → Int32} {bop : Instr} (hop : (bop = .iadd ∧ op = fun x y => x + y) ∨ (bop = .isub ∧ op = fun x y => x - y)) (h1 : FER X own cc nL rt ini R 0 pc p1 f) (h2 : FEI X own cc nL rt ini R 1 p1 p2 g) (hd0 : decode cc p2 = .ok (.dup2, 1)) (hd1 : decode cc (p2 + 1) = .ok (.iaload, 1)) (h3 : FEI X own cc nL rt ini R 3 (p2 + 1 + 1) p3 e) (hd2 : decode cc p3 = .ok (bop, 1)) (hd : decode cc (p3 + 1) = .ok (.iastore, 1)) : FS X own cc nL rt ini R pc (p3 + 1 + 1) pb pq (sastC X op f g e) := by
  intro r A env σ Kn Kb Kc Kr hf g1 g2 g3 g4
  refine h1 r A env σ [] _ (Nat.le_refl 0) hf (fun a σ1 ha => ?_)
  refine h2 r A env σ1 [.ref a] _ (Nat.le_refl _) ha (fun i σ2 hi => ?_)
  obtain ⟨n0, t0, e0, y1, y2⟩ := hi
  have hw : WA X nL R r (p2 + 1) env [.int i, .ref a, .int i, .ref a] σ2 := by
    refine wa_iald A e0 y1 hd1 ?_
    refine h3 r A env σ2 [.int (t0 i.toNatClampNeg), .int i, .ref a] _ (Nat.le_refl _) y2 (fun x σ3 hx => ?_)
    obtain ⟨n, t, e, z1, z2⟩ := hx
    have hw2 := wa_iast (R := R) (nL := nL) (st := []) A e z1 hd (g1 _ _ z2)
    intro H locs ls hH hn hS hl he
    rcases hop with ⟨rfl, rfl⟩ | ⟨rfl, rfl⟩
    · exact lv_iadd A.1 A.2.1 hd2 (hw2 H locs ls hH hn hS hl he)
    · exact lv_isub A.1 A.2.1 hd2 (hw2 H locs ls hH hn hS hl he)
  intro H locs ls hH hn hS hl he
  exact lv_dup2_11 A.1 A.2.1 hd0 rfl rfl (hw H locs ls hH hn hS hl he)
theorem s_zst {f : ER} {g e : EI} (h1 : FER X own cc nL rt ini R 0 pc p1 f) (h2 : FEI X own cc nL rt ini R 1 p1 p2 g) (h3 : FEI X own cc nL rt ini R 2 p2 p3 e) (hd : decode cc p3 = .ok (.bastore, 1)) : FS X own cc nL rt ini R pc (p3 + 1) pb pq (szst X f g e) := by
  intro r A env σ Kn Kb Kc Kr hf g1 g2 g3 g4
  refine h1 r A env σ [] _ (Nat.le_refl 0) hf (fun a σ1 ha => ?_)
  refine h2 r A env σ1 [.ref a] _ (Nat.le_refl _) ha (fun i σ2 hi => ?_)
  refine h3 r A env σ2 [.int i, .ref a] _ (Nat.le_refl _) hi (fun x σ3 hx => ?_)
  obtain ⟨n, t, e, z1, z2, z3⟩ := hx
  intro H locs ls hH hn hS hl he
  have hnr : narrow .boolean (.int x) = .int x := by rcases z2 with rfl | rfl <;> rfl
  refine W.zast A.1 A.2.1 (hH a _ e).2 ((A.2.2.2.2.2.2.1.2 1 _ rfl).1 n (fun j => .int (t j))) (fun q => by cases q) (by show ¬ (i < 0 ∨ (arrV _ _ _).slots.size ≤ _); rw [arrV_size]; exact z1) rfl rfl hd fun H1 e1 z oq => ?_
  refine g1 _ _ z3 H1 _ ls (hH.set oq (hH a _ e).1 ?_) (z.trans hn) (hS.put z oq (hH a _ e).1) hl he
  show H1[a]? = some (vp_cell _ _)
  rw [e1, hnr]
  rw [vp_cell_i, vp_cell_i, arrV_store]
  congr 2
  funext q
  by_cases hq : q = i.toNatClampNeg
  · subst hq; simp [updV, upd]
  · simp [updV, upd, hq]
/-- a class of the six below Person, or Person -/
theorem person_ok {r : RX} (A : Act X own cc nL rt ini r) {ci : Nat} (h : ci ∈ [4, 5, 6, 7, 8, 9, 10]) {comp : ClassId} (hcomp : r.2.2.1.vm.findClass "FastClock$Person" = some comp) : r.2.2.1.vm.assignable (X.2.1.1 ci) comp = true := by
  have key : ∀ (i : Nat) (C : String), (classes[ci]?).map (fun q => q.1) = some C → lw_tbl[i]? = some (Cond.castable C "FastClock$Person") → r.2.2.1.vm.assignable (X.2.1.1 ci) comp = true := by
    intro i C h1 h2
    have hsp := A.2.2.2.2.2.2.2.2.2.2.2.2.1 _ (tp i h2 rfl)
    obtain ⟨c0, t0, f1, f2, f3⟩ := Cond.castable_spec (va_Nw.use (A := r.2.2.2.2.1) rfl hsp)
    cases hq : classes[ci]? with
    | none => rw [hq] at h1; cases h1
    | some q =>
      rw [hq] at h1
      cases h1
      have e1 := (A.2.2.2.2.2.2.1.1 ci q hq).2.1
      cases hcomp.symm.trans f2
      cases e1.symm.trans f1
      exact f3
  simp only [List.mem_cons, List.not_mem_nil, or_false] at h
  rcases h with rfl | rfl | rfl | rfl | rfl | rfl | rfl
  · have e1 := (A.2.2.2.2.2.2.1.1 4 _ rfl).2
    cases e1.1.symm.trans hcomp
    exact va_assign e1
  · exact key (52 + 1352) _ rfl (by decide +kernel)
  · exact key (52 + 1353) _ rfl (by decide +kernel)
  · exact key (52 + 1354) _ rfl (by decide +kernel)
  · exact key (52 + 1355) _ rfl (by decide +kernel)
  · exact key (52 + 1356) _ rfl (by decide +kernel)
  · exact key (52 + 1357) _ rfl (by decide +kernel)
theorem s_pst {f : ER} {g : EI} {e : ER} (h1 : FER X own cc nL rt ini R 0 pc p1 f) (h2 : FEI X own cc nL rt ini R 1 p1 p2 g) (h3 : FER X own cc nL rt ini R 2 p2 p3 e) (hd : decode cc p3 = .ok (.aastore, 1)) : FS X own cc nL rt ini R pc (p3 + 1) pb pq (spst X f g e) := by
  intro r A env σ Kn Kb Kc Kr hf g1 g2 g3 g4
  refine h1 r A env σ [] _ (Nat.le_refl 0) hf (fun a σ1 ha => ?_)
  refine h2 r A env σ1 [.ref a] _ (Nat.le_refl _) ha (fun i σ2 hi => ?_)
  refine h3 r A env σ2 [.int i, .ref a] _ (Nat.le_refl _) hi (fun v σ3 hx => ?_)
  obtain ⟨n, t, e, z1, z2, z3⟩ := hx
  unfold onO at z2
  split at z2
  · rename_i q hq
    obtain ⟨ci, fs⟩ := q
    intro H locs ls hH hn hS hl he
    have hlt : i.toNatClampNeg < n := Nat.not_le.mp fun q => z1 (Or.inr q)
    have h0 : ¬ i < 0 := fun q => z1 (Or.inl q)
    obtain ⟨-, rr, hr', cellV, y1, y2, y3, -⟩ := hH v _ hq
    obtain ⟨kA, comp, k1, k2, k3, -⟩ := (A.2.2.2.2.2.2.1.2 2 _ rfl).2
    have hcls := (A.2.2.2.2.2.2.1.1 ci rr hr').2
    obtain ⟨kC, hkC, -⟩ := hcls.2
    have hcP := (A.2.2.2.2.2.2.1.1 4 _ rfl).2
    cases k3.symm.trans hcP.1
    obtain ⟨kP, hkP, -⟩ := hcP.2
    refine W.aast A.1 A.2.1 (hH a _ e).2 (fun q h => by cases h) (fun h => by cases h) k1 k2 rfl hkP ⟨h0, by show _ < (arrV _ _ _).slots.size; rw [arrV_size]; exact hlt⟩ y1 (fun q h => by rw [y3] at h; cases h) (by rw [y2]; exact hkC) (by rw [y2]; exact person_ok A z2 k3) rfl rfl hd fun H1 e1 z oq => ?_
    refine g1 _ _ z3 H1 _ ls (hH.set oq (hH a _ e).1 ?_) (z.trans hn) (hS.put z oq (hH a _ e).1) hl he
    show H1[a]? = some (vp_cell _ _)
    rw [e1]
    rw [vp_cell_q, vp_cell_q, arrV_store]
    congr 2
    funext q
    by_cases hq : q = i.toNatClampNeg
    · subst hq; simp [updV, va_up, va_rf]
    · simp [updV, va_up, hq]
  · exact z2.elim
/-- new int[n] -/
def xNewI (X : WX) (R : Room) (f : EI) : ER := fun env σ K => f env σ (fun n σ1 => ¬ n < 0 ∧ n.toNatClampNeg * 4 ≤ 536870912 ∧ σ1.2.2.1 + 1 ≤ R.cells ∧ σ1.2.2.2 + n.toNatClampNeg ≤ R.slots ∧ K σ1.2.1 (up σ1.1 σ1.2.1 (iA X n.toNatClampNeg (fun _ => 0)), (σ1.2.1 + 1, (σ1.2.2.1 + 1, σ1.2.2.2 + n.toNatClampNeg))))
def xNewZ (X : WX) (R : Room) (f : EI) : ER := fun env σ K => f env σ (fun n σ1 => ¬ n < 0 ∧ n.toNatClampNeg * 4 ≤ 536870912 ∧ σ1.2.2.1 + 1 ≤ R.cells ∧ σ1.2.2.2 + n.toNatClampNeg ≤ R.slots ∧ K σ1.2.1 (up σ1.1 σ1.2.1 (zA X n.toNatClampNeg (fun _ => 0)), (σ1.2.1 + 1, (σ1.2.2.1 + 1, σ1.2.2.2 + n.toNatClampNeg))))
def xNewP (X : WX) (R : Room) (f : EI) : ER := fun env σ K => f env σ (fun n σ1 => ¬ n < 0 ∧ n.toNatClampNeg * 4 ≤ 536870912 ∧ σ1.2.2.1 + 1 ≤ R.cells ∧ σ1.2.2.2 + n.toNatClampNeg ≤ R.slots ∧ K σ1.2.1 (up σ1.1 σ1.2.1 (pA X n.toNatClampNeg (fun _ => none)), (σ1.2.1 + 1, (σ1.2.2.1 + 1, σ1.2.2.2 + n.toNatClampNeg))))
theorem wa_size {r : RX} (A : Act X own cc nL rt ini r) {H : Heap} {locs : List Loc} (hS : va_S (AX X) r.2.2.1.heap H locs) : X.2.2.2.1 ≤ H.size := Nat.le_trans A.2.2.2.2.2.2.2.2.2.1 hS.1
theorem r_newI {f : EI} (h1 : FEI X own cc nL rt ini R k pc p1 f) (hd : decode cc p1 = .ok (.newarray .int, 2)) : FER X own cc nL rt ini R k pc (p1 + 2) (xNewI X R f) := by
  intro r A env σ st K hk hf hK
  refine h1 r A env σ st _ hk hf (fun n σ1 ha => ?_)
  obtain ⟨z1, z2, z3, z4, z5⟩ := ha
  intro H locs ls hH hn hS hl he
  refine va_newaK (atype := .int) A.1 A.2.1 (A.2.2.2.2.2.1 (Cond.arrayClass .int) (tg (52 + 92) (by decide +kernel) rfl)) rfl hd rfl z1 rfl (by rw [show componentBytes (newarray.typeOf .int) = 4 from rfl]; exact z2) z3 z4 hn fun H1 cA e1 zz o1 hAr hNm => ?_
  have hcA : cA = X.2.2.1.1 := Option.some.inj (hNm.symm.trans (A.2.2.2.2.2.2.1.2 0 _ rfl).2)
  subst hcA
  exact hK _ _ z5 H1 locs ls (hH.new hn o1 (by rw [← hn]; exact wa_size A hS) e1) zz (S_new hS (by rw [zz, hn]) (fun q hq => o1 q (by rw [← hn]; exact hq))) hl ⟨he.1, z3, z4⟩
theorem r_newZ {f : EI} (h1 : FEI X own cc nL rt ini R k pc p1 f) (hd : decode cc p1 = .ok (.newarray .boolean, 2)) : FER X own cc nL rt ini R k pc (p1 + 2) (xNewZ X R f) := by
  intro r A env σ st K hk hf hK
  refine h1 r A env σ st _ hk hf (fun n σ1 ha => ?_)
  obtain ⟨z1, z2, z3, z4, z5⟩ := ha
  intro H locs ls hH hn hS hl he
  refine va_newaK (atype := .boolean) A.1 A.2.1 (A.2.2.2.2.2.1 (Cond.arrayClass .boolean) (tg (52 + 1012) (by decide +kernel) rfl)) rfl hd rfl z1 rfl (by rw [show componentBytes (newarray.typeOf .boolean) = 1 from rfl]; omega) z3 z4 hn fun H1 cA e1 zz o1 hAr hNm => ?_
  have hcA : cA = X.2.2.1.2.1 := Option.some.inj (hNm.symm.trans (A.2.2.2.2.2.2.1.2 1 _ rfl).2)
  subst hcA
  exact hK _ _ z5 H1 locs ls (hH.new hn o1 (by rw [← hn]; exact wa_size A hS) e1) zz (S_new hS (by rw [zz, hn]) (fun q hq => o1 q (by rw [← hn]; exact hq))) hl ⟨he.1, z3, z4⟩
theorem r_newP {f : EI} {idx : Nat} (h1 : FEI X own cc nL rt ini R k pc p1 f) (hw : Cond.classLink own idx "FastClock$Person" ∈ lw_good) (hd : decode cc p1 = .ok (.anewarray idx, 3)) : FER X own cc nL rt ini R k pc (p1 + 3) (xNewP X R f) := by
  intro r A env σ st K hk hf hK
  refine h1 r A env σ st _ hk hf (fun n σ1 ha => ?_)
  obtain ⟨z1, z2, z3, z4, z5⟩ := ha
  intro H locs ls hH hn hS hl he
  refine W.anew A.1 A.2.1 A.2.2.2.2.1 (A.2.2.2.2.2.1 _ hw) (va_AO.use A.2.2.2.2.2.2.2.2.2.2.2.2.2.1) rfl hd rfl z1 z2 z3 z4 fun cA kA comp f1 f2 f3 f4 => ?_
  generalize hH1 : H.push ({ cls := cA, slots := Array.replicate n.toNatClampNeg .null, vm := .none } : Cell) = H1
  have zz : H1.size = H.size + 1 := by rw [← hH1, Array.size_push]
  have e1 : H1[H.size]? = some (arrV cA n.toNatClampNeg (fun _ => .null)) := by rw [← hH1, Array.getElem?_push_size, ← arrV_new]
  have o1 : ∀ q : Nat, q < H.size → H1[q]? = H[q]? := fun q hq => by rw [← hH1, Array.getElem?_push, if_neg (Nat.ne_of_lt hq)]
  obtain ⟨kA2, comp2, g1, g2, g3, g4⟩ := (A.2.2.2.2.2.2.1.2 2 _ rfl).2
  have hcA : cA = X.2.2.1.2.2 := Option.some.inj (f1.symm.trans g4)
  subst hcA
  rw [hn] at e1 ⊢
  exact hK _ _ z5 H1 locs ls (hH.new hn (fun q hq => o1 q (by rw [hn]; exact hq)) (by rw [← hn]; exact wa_size A hS) e1) (by rw [zz, hn]) (S_new hS zz o1) hl ⟨he.1, z3, z4⟩
/-- the words of 'new C' -/
def NOK (own : String) (idx ci N : Nat) (fs0 : List Value) : Prop := ∃ (C : String) (T : u_T) (t0 : Nat → FieldType), classes[ci]? = some (C, T, N) ∧ (∀ w ∈ u_ws C T N, w ∈ lw_good) ∧ (∀ j, j < N → parseFieldDescriptor (T j).2.2.1 = some (t0 j)) ∧ (∀ j, j < N → defaultValue (t0 j) = vp_V fs0 j) ∧ Cond.classLink own idx C ∈ lw_good ∧ Cond.instantiable C N ∈ lw_good ∧ Cond.initialized C ∈ lw_good
theorem wa_new {r : RX} (A : Act X own cc nL rt ini r) {idx ci N : Nat} {fs0 : List Value} (hw : NOK own idx ci N fs0) {env : Lc} {σ : AH} {st : List Value} (z3 : σ.2.2.1 + 1 ≤ R.cells) (z4 : σ.2.2.2 + N ≤ R.slots) (hd : decode cc pc = .ok (.new idx, 3)) (hK : WA X nL R r (pc + 3) env (.ref σ.2.1 :: st) (up σ.1 σ.2.1 (ob ci fs0), (σ.2.1 + 1, (σ.2.2.1 + 1, σ.2.2.2 + N)))) : WA X nL R r pc env st σ := by
  intro H locs ls hH hn hS hl he
  obtain ⟨C, T, t0, g1, g2, g3, g4, g5, g6, g7⟩ := hw
  have hts := A.2.2.2.2.2.1
  have hKn := A.2.2.2.2.2.2.1.1 ci _ g1
  refine W.newcK A.1 A.2.1 A.2.2.2.2.1 (hts _ g5) (hts _ g6) (hts _ g7) rfl hd z3 z4 hKn.2.1 hn fun H1 kC hkC e1 zz o1 => ?_
  exact hK H1 locs ls (hH.new hn o1 (by rw [← hn]; exact wa_size A hS) ⟨_, g1, (u_born t0 hts g2 hKn hkC e1 g3).to g4⟩) zz (S_new hS (by rw [zz, hn]) (fun q hq => o1 q (by rw [← hn]; exact hq))) hl ⟨he.1, z3, z4⟩
end ARR
