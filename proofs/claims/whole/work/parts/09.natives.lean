/-! rows of the small logic: super's methods, instanceof, what the JDK does natively -/
section NAT
variable {X : WX} {own : String} {cc : ByteArray} {nL : Nat} {rt : Option FieldType} {ini : Bool} {R : Room} {k pc p1 p2 p3 p4 p5 pt pf pb pq pe : Nat}
/-- super.m(..): M is what runs -/
def kP (X : WX) (M : MD) (d : Nat) (o : ER) (a : EA) : EK := fun env σ K => o env σ (fun b σ1 => a env σ1 (fun vs σ2 => onO (σ2.1 b) (fun _ _ => True) ∧ CALL X M d (.ref b :: vs) σ2.1 (fun rv h' => K rv (h', σ2.2))))
/-- x: what the instruction names, in own's direct superclass; M: the method that it finds, there or in the class above (ciS: the direct superclass's place) -/
def UOK (own : String) (idx : Nat) (x : MethodName) (M : MD) (ciS n : Nat) : Prop := (classes[ciS]?).map (fun q => q.1) = some x.cls ∧ M.1 = ⟨M.1.cls, x.name, x.desc⟩ ∧ Cond.methodLink own idx x ∈ lw_good ∧ Cond.sameMethod x.cls M.1.cls x.name x.desc ∈ lw_good ∧ Cond.superclass own x.cls ∈ lw_good ∧ (x.cls = M.1.cls ∨ Cond.superclass x.cls M.1.cls ∈ lw_good) ∧ Cond.instanceMethod M.1 ∈ lw_good ∧ Cond.initialized M.1.cls ∈ lw_good ∧ Cond.code M.1 M.2.1 M.2.2.1 M.2.2.2 ∈ lw_good ∧ x.name ≠ "<init>" ∧ (parseMethodDescriptor x.desc).map (fun d => d.parameters.length) = some n
theorem k_P {M : MD} {x : MethodName} {o : ER} {a : EA} {idx n d ciS : Nat} (h0 : FER X own cc nL rt ini R k pc p1 o) (h1 : FEA X own cc nL rt ini R (k + 1) p1 p2 n a) (hs : UOK own idx x M ciS n) (hk8 : k ≤ 8) (hR1 : d + 1 ≤ R.frames) (hR2 : 8 + (M.2.2.1 + 11) + 48 * d ≤ R.locals) (hd : decode cc p2 = .ok (.invokespecial idx, 3)) : FEK X own cc nL rt ini R k pc (p2 + 3) (kP X M d o a) := by
  intro r A env σ st K hk hf hK
  refine h0 r A env σ st _ hk hf (fun b σ1 hb => ?_)
  refine h1 r A env σ1 (.ref b :: st) _ (cats_r hk) hb (fun vs σ2 hln hv => ?_)
  obtain ⟨c3, hc⟩ := hv
  unfold onO at c3
  split at c3
  · rename_i q hq
    obtain ⟨ci, fs⟩ := q
    intro H locs ls hH hn hS hl he
    obtain ⟨s0, sy, s1, s2, s3, s4, s5, s6, s7, s8, s9⟩ := hs
    have hts := A.2.2.2.2.2.1
    obtain ⟨-, rr, hr', cellB, y1, y2, y3, -⟩ := hH b _ hq
    obtain ⟨kB, hkB, -⟩ := (A.2.2.2.2.2.2.1.1 ci rr hr').2.2
    have hM := call0 hc
    have hK2 : Back X.1 R r.1 r.2.1 r.2.2.2.2.2.1 r.2.2.1 r.2.2.2.2.1 M.1 3 8 (PreOf R 0 0 (PcOf X (.ref b :: vs) σ2.1 σ2.2.1)) (PostOf (QcOf X (fun rv h' nx' => K rv (h', (nx', (σ2.2.2.1 + 0, σ2.2.2.2 + 0))))) 0 0 (AX X)) :=
      back_of (bytes := M.2.1) (maxL := M.2.2.1) (ret := M.2.2.2) hM pc_blind rfl rfl hR1 hR2 (pay_in hts (good_of (ws_in s7))) List.mem_cons_self (fun a' U hW => word_at hW (Or.inl (by first | rfl | simp [Cond.onTables, Cond.keeps, Cond.steady])) (hts _ s6))
    obtain ⟨mk, methM, hnamed, hmethM, hstM, habM⟩ := Cond.instanceMethod_spec (hts _ s5)
    obtain ⟨methM', cM, hmethM', -, -, -, -, -, -, hsigM⟩ := Cond.code_spec hnamed (hts _ s7)
    cases hmethM.symm.trans hmethM'
    obtain ⟨ps, dk, kp, hps, hdk, hkp, hsuper, -, -, hnid⟩ := Cond.superclass_spec A.2.2.2.2.1 (hts _ s3)
    have hn1 : r.2.2.1.methodNamed? ⟨M.1.cls, x.name, x.desc⟩ = some mk := sy ▸ hnamed
    have hmk : r.2.2.1.vm.findClass M.1.cls = some mk.cls := findClass_of_methodNamed hnamed
    have hsub : r.2.2.1.vm.isSubclass ps mk.cls = true := by
      rcases s4 with s4 | s4
      · rw [s4] at hps
        have e : ps = mk.cls := Option.some.inj (hps.symm.trans hmk)
        rw [e]; simp [Vm.isSubclass, Vm.isSubclassAux]
      · obtain ⟨p2', k2, kp2, e1, e2, e3, e4, -⟩ := Cond.superclass_spec hps (hts _ s4)
        have e5 : p2' = mk.cls := Option.some.inj (e1.symm.trans hmk)
        subst e5
        have hz : ∃ z, r.2.2.1.vm.classes.size = z + 1 := by
          have := (Array.getElem?_eq_some_iff.mp e2).1
          exact ⟨r.2.2.1.vm.classes.size - 1, by omega⟩
        obtain ⟨z, hz⟩ := hz
        simp [Vm.isSubclass, Vm.isSubclassAux, hz, e2, e4]
    have hrun : va_Run r.1 X.1 r.2.1 R r.2.2.1 r.2.2.2.1 r.2.2.2.2.1 r.2.2.2.2.2.1 r.2.2.2.2.2.2.1 r.2.2.2.2.2.2.2.1 H locs σ2.2.2.1 σ2.2.2.2 0 0 (F0 r.2.2.2.1 p2 ls (vs.reverse ++ .ref b :: st)) st (QcOf X (fun rv h' nx' => K rv (h', (nx', (σ2.2.2.1 + 0, σ2.2.2.2 + 0)))) (Value.ref b :: vs).toArray) (AX X) := by
      intro T hT Y
      have hlen9 : ∀ sig, parseMethodDescriptor M.1.desc = some sig → vs.length = sig.parameters.length := fun sig hsg => by
        have e : M.1.desc = x.desc := by rw [sy]
        rw [e] at hsg
        rw [hsg] at s9
        exact hln.trans (Option.some.inj s9).symm
      obtain ⟨vm₁, X₁, hstep₁⟩ := Y.invokespecialUp A.1 A.2.2.2.2.1 (hts _ s1) (hts _ s2) hn1 hmethM hstM habM s8 hdk hnid hps hsuper hsub (a := b) (cell := cellB) (by rw [hT]; exact y1)
        (fun z h => by rw [y3] at h; cases h) (by rw [y2]; exact hkB) (g := F0 r.2.2.2.1 p2 ls (vs.reverse ++ .ref b :: st)) rfl (argsL := vs) (rest := st) (hlen9 _ hsigM) rfl (by rw [A.2.1]; exact hd)
      obtain ⟨v, B, X', hpost, hsteps⟩ := hK2 _ _ _ ⟨T.setVm vm₁, locs, σ2.2.2.1, σ2.2.2.2⟩ { F0 r.2.2.2.1 p2 ls (vs.reverse ++ .ref b :: st) with stack := st } (.invokespecial idx) mk (Value.ref b :: vs).toArray X₁ rfl (hl.1.trans A.2.2.2.1.symm) (by rw [A.2.1]; exact hd) (lv_room (Nat.le_trans hk hk8)) (X₁.named hnamed) ⟨he.2.1, he.2.2, pre_of A.2.2.2.2.2.2.1 A.2.2.2.2.2.2.2.2.2.1 A.2.2.2.2.2.2.2.2.2.2 hH hn hS (T.setVm vm₁) hT X₁.warmed⟩
      obtain ⟨g', mk', t, L, e1, e2, hq', h1, hL, h2, h3⟩ := hpost
      obtain ⟨U', l2, c2, s2'⟩ := B
      dsimp only [Pt.U, Pt.locs, Pt.cells, Pt.slots] at X' e1 e2 h1 h2 h3 hsteps
      subst h1; subst h2; subst h3
      exact ⟨v, (T.setVm vm₁).calling g' mk' (Value.ref b :: vs).toArray, t, U', L, hT, X', hL, e1, e2, hq', fun target h => hstep₁ _ (by rw [doInvoke_state]; exact hsteps.trans h)⟩
    exact call_go hrun hS (fun rv h' nx' H1 locs1 g1 g2 g3 g4 => hK _ _ g1 H1 locs1 ls g2 g3 g4 hl ⟨he.1, he.2.1, he.2.2⟩)
  · exact c3.elim
def jmax (x y : Int32) : Int32 := if x < y then y else x
def jmin (x y : Int32) : Int32 := if y < x then y else x
def jabs (x : Int32) : Int32 := if 0 ≤ x then x else 0 - x
def jabsl (x : Int64) : Int64 := if 0 < x then x else -x
def xmax (f g : EI) : EI := fun env σ K => f env σ (fun x σ1 => g env σ1 (fun y σ2 => K (jmax x y) σ2))
def xmin (f g : EI) : EI := fun env σ K => f env σ (fun x σ1 => g env σ1 (fun y σ2 => K (jmin x y) σ2))
def xabs (f : EI) : EI := fun env σ K => f env σ (fun x σ1 => K (jabs x) σ1)
def xabsl (f : EL) : EL := fun env σ K => f env σ (fun x σ1 => K (jabsl x) σ1)
theorem cats_le {st : List Value} {k n : Nat} (h : cats st ≤ k) (h2 : k + n ≤ R.locals) : (st.map fun v => v.category).sum + n ≤ R.locals := by
  have h3 : (st.map fun v => v.category).sum ≤ k := h
  omega
theorem r_max {f g : EI} {idx : Nat} (h1 : FEI X own cc nL rt ini R k pc p1 f) (h2 : FEI X own cc nL rt ini R (k + 1) p1 p2 g) (hw : Cond.methodLink own idx Lib.Math.max.name ∈ lw_good) (hR1 : 1 ≤ R.frames) (hR2 : k + 13 ≤ R.locals) (hd : decode cc p2 = .ok (.invokestatic idx, 3)) : FEI X own cc nL rt ini R k pc (p2 + 3) (xmax f g) := by
  intro r A env σ st K hk hf hK
  refine h1 r A env σ st _ hk hf (fun x σ1 hx => ?_)
  refine h2 r A env σ1 (.int x :: st) _ (cats_i hk) hx (fun y σ2 hy => ?_)
  intro H locs ls hH hn hS hl he
  exact va_mmax A.1 A.2.1 (A.2.2.2.1.trans hl.1.symm) A.2.2.2.2.1 (A.2.2.2.2.2.1 _ hw) (A.2.2.2.2.2.1 _ (tg (52 + 330) (by decide +kernel) rfl)) (A.2.2.2.2.2.1 _ (tg (52 + 10) (by decide +kernel) rfl)) (A.2.2.2.2.2.1 _ (tg (52 + 331) (by decide +kernel) rfl)) hR1 (cats_le hk hR2) he.2.1 he.2.2 hd (hK _ _ hy H locs ls hH hn hS hl he)
theorem r_min {f g : EI} {idx : Nat} (h1 : FEI X own cc nL rt ini R k pc p1 f) (h2 : FEI X own cc nL rt ini R (k + 1) p1 p2 g) (hw : Cond.methodLink own idx Lib.Math.min.name ∈ lw_good) (hR1 : 1 ≤ R.frames) (hR2 : k + 13 ≤ R.locals) (hd : decode cc p2 = .ok (.invokestatic idx, 3)) : FEI X own cc nL rt ini R k pc (p2 + 3) (xmin f g) := by
  intro r A env σ st K hk hf hK
  refine h1 r A env σ st _ hk hf (fun x σ1 hx => ?_)
  refine h2 r A env σ1 (.int x :: st) _ (cats_i hk) hx (fun y σ2 hy => ?_)
  intro H locs ls hH hn hS hl he
  exact va_mmin A.1 A.2.1 (A.2.2.2.1.trans hl.1.symm) A.2.2.2.2.1 (A.2.2.2.2.2.1 _ hw) (A.2.2.2.2.2.1 _ (tg (52 + 333) (by decide +kernel) rfl)) (A.2.2.2.2.2.1 _ (tg (52 + 10) (by decide +kernel) rfl)) (A.2.2.2.2.2.1 _ (tg (52 + 334) (by decide +kernel) rfl)) hR1 (cats_le hk hR2) he.2.1 he.2.2 hd (hK _ _ hy H locs ls hH hn hS hl he)
theorem r_abs {f : EI} {idx : Nat} (h1 : FEI X own cc nL rt ini R k pc p1 f) (hw : Cond.methodLink own idx Lib.Math.abs.name ∈ lw_good) (hR1 : 1 ≤ R.frames) (hR2 : k + 13 ≤ R.locals) (hd : decode cc p1 = .ok (.invokestatic idx, 3)) : FEI X own cc nL rt ini R k pc (p1 + 3) (xabs f) := by
  intro r A env σ st K hk hf hK
  refine h1 r A env σ st _ hk hf (fun x σ1 hx => ?_)
  intro H locs ls hH hn hS hl he
  exact va_mabs A.1 A.2.1 (A.2.2.2.1.trans hl.1.symm) A.2.2.2.2.1 (A.2.2.2.2.2.1 _ hw) (A.2.2.2.2.2.1 _ (tg (52 + 592) (by decide +kernel) rfl)) (A.2.2.2.2.2.1 _ (tg (52 + 10) (by decide +kernel) rfl)) (A.2.2.2.2.2.1 _ (tg (52 + 593) (by decide +kernel) rfl)) hR1 (cats_le hk hR2) he.2.1 he.2.2 hd (hK _ _ hx H locs ls hH hn hS hl he)
theorem r_absl {f : EL} {idx : Nat} (h1 : FEL X own cc nL rt ini R k pc p1 f) (hw : Cond.methodLink own idx Lib.MathLoose.abs_long.x ∈ lw_good) (hR1 : 1 ≤ R.frames) (hR2 : k + 13 ≤ R.locals) (hd : decode cc p1 = .ok (.invokestatic idx, 3)) : FEL X own cc nL rt ini R k pc (p1 + 3) (xabsl f) := by
  intro r A env σ st K hk hf hK
  refine h1 r A env σ st _ hk hf (fun x σ1 hx => ?_)
  intro H locs ls hH hn hS hl he
  exact va_mabs_long A.1 A.2.1 (A.2.2.2.1.trans hl.1.symm) A.2.2.2.2.1 (A.2.2.2.2.2.1 _ hw) (A.2.2.2.2.2.1 _ (tg (52 + 759) (by decide +kernel) rfl)) (A.2.2.2.2.2.1 _ (tg (52 + 10) (by decide +kernel) rfl)) (A.2.2.2.2.2.1 _ (tg (52 + 760) (by decide +kernel) rfl)) hR1 (cats_le hk hR2) he.2.1 he.2.2 hd (hK _ _ hx H locs ls hH hn hS hl he)
/-- System.arraycopy over int arrays -/
def sCopy (X : WX) (f : ER) (g1 : EI) (f2 : ER) (g2 g3 : EI) : ST := fun env σ Kn _ _ _ => f env σ (fun a0 σ1 => g1 env σ1 (fun sp σ2 => f2 env σ2 (fun a σ3 => g2 env σ3 (fun dp σ4 => g3 env σ4 (fun n σ5 => onI X (σ5.1 a0) (fun n0 t0 => onI X (σ5.1 a) (fun n1 t1 => ¬ sp < 0 ∧ ¬ dp < 0 ∧ ¬ n < 0 ∧ sp.toNatClampNeg + n.toNatClampNeg ≤ n0 ∧ dp.toNatClampNeg + n.toNatClampNeg ≤ n1 ∧ Kn env (up σ5.1 a (iA X n1 (va_cpy t0 t1 sp.toNatClampNeg dp.toNatClampNeg n.toNatClampNeg)), σ5.2))))))))
theorem s_copy {f f2 : ER} {g1 g2 g3 : EI} {idx : Nat} (h1 : FER X own cc nL rt ini R 0 pc p1 f) (h2 : FEI X own cc nL rt ini R 1 p1 p2 g1) (h3 : FER X own cc nL rt ini R 2 p2 p3 f2) (h4 : FEI X own cc nL rt ini R 3 p3 p4 g2) (h5 : FEI X own cc nL rt ini R 4 p4 p5 g3) (hw : Cond.methodLink own idx arraycopyName ∈ lw_good) (hR1 : 1 ≤ R.frames) (hR2 : nativeFrameWords "java/lang/System" "arraycopy" 5 + 11 ≤ R.locals) (hd : decode cc p5 = .ok (.invokestatic idx, 3)) : FS X own cc nL rt ini R pc (p5 + 3) pb pq (sCopy X f g1 f2 g2 g3) := by
  intro r A env σ Kn Kb Kc Kr hf k1 k2 k3 k4
  refine h1 r A env σ [] _ (Nat.le_refl 0) hf (fun a0 σ1 ha => ?_)
  refine h2 r A env σ1 [.ref a0] _ (Nat.le_refl _) ha (fun sp σ2 hb => ?_)
  refine h3 r A env σ2 [.int sp, .ref a0] _ (Nat.le_refl _) hb (fun a σ3 hc => ?_)
  refine h4 r A env σ3 [.ref a, .int sp, .ref a0] _ (Nat.le_refl _) hc (fun dp σ4 hdp => ?_)
  refine h5 r A env σ4 [.int dp, .ref a, .int sp, .ref a0] _ (Nat.le_refl _) hdp (fun n σ5 hx => ?_)
  obtain ⟨n0, f0, e0, n1, f1, e1, z1, z2, z3, z4, z5, z6⟩ := hx
  intro H locs ls hH hn hS hl he
  have nn : ∀ z : Int32, ¬ z < 0 → z.toInt = (z.toNatClampNeg : Int) := by
    intro z hz
    have hz0 : (0 : Int) ≤ z.toInt := by
      have := Int32.not_lt.mp hz
      simpa using Int32.le_iff_toInt_le.mp this
    show z.toInt = ((z.toInt.toNat : Nat) : Int)
    omega
  intro T hT Y
  have hc0 : H[a0]? = some (vp_cell X.2.2.1.1 (n0, .inl f0)) := (hH a0 _ e0).2
  have hc1 : H[a]? = some (vp_cell X.2.2.1.1 (n1, .inl f1)) := (hH a _ e1).2
  have hts := A.2.2.2.2.2.1
  obtain ⟨-, k0, hk0, cm0, hkk0⟩ := (A.2.2.2.2.2.2.1.2 0 _ rfl).1 n0 (fun j => .int (f0 j))
  obtain ⟨-, kk1, hk1, cm1, hkk1⟩ := (A.2.2.2.2.2.2.1.2 0 _ rfl).1 n1 (fun j => .int (f1 j))
  obtain ⟨vm', X', step⟩ := Y.arraycopy A.1 A.2.2.2.2.1 (hts _ hw) (hts _ (tg (52 + 697) (by decide +kernel) rfl)) (hts _ (tg (52 + 696) (by decide +kernel) rfl)) (hts _ (tg (52 + 21) (by decide +kernel) rfl)) (src := a0) (dst := a) (cs := vp_cell X.2.2.1.1 (n0, .inl f0)) (cd := vp_cell X.2.2.1.1 (n1, .inl f1)) (srcPos := sp) (destPos := dp) (n := n) (by rw [hT]; exact hc0) (by rw [hT]; exact hc1)
    (fun _ h => by cases h) (fun _ h => by cases h) (fun h => by cases h) (fun h => by cases h) hk0 hk1 hkk0 hkk1 (by rfl) z1 z2 z3
    (by rw [nn sp z1, nn n z3]; show ¬ _ > ((arrV X.2.2.1.1 n0 (fun j => .int (f0 j))).slots.size : Int); rw [arrV_size]; omega)
    (by rw [nn dp z2, nn n z3]; show ¬ _ > ((arrV X.2.2.1.1 n1 (fun j => .int (f1 j))).slots.size : Int); rw [arrV_size]; omega)
    (fun vm₁ _ i hi => by
      have e : (vp_cell X.2.2.1.1 (n0, .inl f0)).slots.getD (sp.toNatClampNeg + i) .null = .int (f0 (sp.toNatClampNeg + i)) := by
        show (arrV X.2.2.1.1 n0 (fun j => .int (f0 j))).slots.getD _ _ = _
        rw [Array.getD_eq_getD_getElem?, arrV_read _ _ (by omega)]
        rfl
      refine ⟨?_, ?_⟩
      · rw [e]; rfl
      · rw [e]; exact trivial)
    (g := F0 r.2.2.2.1 p5 ls (.int n :: .int dp :: .ref a :: .int sp :: .ref a0 :: [])) rfl (hl.1.trans A.2.2.2.1.symm) (rest := []) rfl (by rw [A.2.1]; exact hd) hR1 (by show 2 * 0 + 0 + _ ≤ _; omega)
  have e1' : copied (vp_cell X.2.2.1.1 (n0, .inl f0)) (vp_cell X.2.2.1.1 (n1, .inl f1)) sp dp n = vp_cell X.2.2.1.1 (n1, .inl (va_cpy f0 f1 sp.toNatClampNeg dp.toNatClampNeg n.toNatClampNeg)) := va_copied (fun z => .int z) X.2.2.1.1 X.2.2.1.1 f0 f1 z4
  rw [e1'] at X' step
  have hlt : a < H.size := (Array.getElem?_eq_some_iff.mp hc1).1
  have hheap : ((T.setVm vm').setCell a (vp_cell X.2.2.1.1 (n1, .inl (va_cpy f0 f1 sp.toNatClampNeg dp.toNatClampNeg n.toNatClampNeg)))).heap = H.setIfInBounds a (vp_cell X.2.2.1.1 (n1, .inl (va_cpy f0 f1 sp.toNatClampNeg dp.toNatClampNeg n.toNatClampNeg))) := by rw [← hT]; rfl
  have oq : ∀ q : Nat, q ≠ a → (H.setIfInBounds a (vp_cell X.2.2.1.1 (n1, .inl (va_cpy f0 f1 sp.toNatClampNeg dp.toNatClampNeg n.toNatClampNeg))))[q]? = H[q]? := fun q hq => by simp [Array.getElem?_setIfInBounds, Ne.symm hq]
  obtain ⟨t, a1, b1⟩ := k1 _ _ z6 _ _ ls (hH.set oq (hH a _ e1).1 (show (H.setIfInBounds a _)[a]? = some _ by simp [Array.getElem?_setIfInBounds, hlt])) (by simpa using hn) ⟨by simp; exact hS.1, fun q g1 g2 => by
      rw [oq q (fun e => g2 (by rw [e]; exact (hH a _ e1).1))]
      exact hS.2.1 q g1 g2, fun q hq => by
      rcases List.mem_append.mp hq with h | h
      · exact hS.2.2 q h
      · obtain ⟨z, -, hz⟩ := List.mem_map.mp h
        rw [← hz]
        exact (hH a _ e1).1⟩ hl he _ hheap X'
  exact ⟨t, step t a1, b1⟩
end NAT
