/-! rows of the small logic: super's methods, instanceof, what the JDK does natively -/
section NAT
variable {X : WX} {own : String} {cc : ByteArray} {nL : Nat} {rt : Option FieldType} {ini : Bool} {R : Room} {k pc p1 p2 p3 p4 p5 pt pf pb pq pe : Nat}
/-- super.m(..): M is what runs -/
def kP (X : WX) (M : MD) (d : Nat) (o : ER) (a : EA) : EK := fun env σ K => o env σ (fun b σ1 => a env σ1 (fun vs σ2 => onO (σ2.1 b) (fun _ _ => True) ∧ CALL X M d (.ref b :: vs) σ2.1 (fun rv h' => K rv (h', σ2.2))))
/-- x: what the instruction names, in own's direct superclass; M: the method that it finds, there or in the class above (ciS: the direct superclass's place) -/
def UOK (own : String) (idx : Nat) (x : MethodName) (M : MD) (ciS n : Nat) : Prop := (classes[ciS]?).map (fun q => q.1) = some x.cls ∧ M.1 = ⟨M.1.cls, x.name, x.desc⟩ ∧ Cond.methodLink own idx x ∈ lw_good ∧ Cond.sameMethod x.cls M.1.cls x.name x.desc ∈ lw_good ∧ Cond.superclass own x.cls ∈ lw_good ∧ (x.cls = M.1.cls ∨ Cond.superclass x.cls M.1.cls ∈ lw_good) ∧ Cond.instanceMethod M.1 ∈ lw_good ∧ Cond.initialized M.1.cls ∈ lw_good ∧ Cond.code M.1 M.2.1 M.2.2.1 M.2.2.2 ∈ lw_good ∧ x.name ≠ "<init>" ∧ (parseMethodDescriptor x.desc).map (fun d => d.parameters.length) = some n
theorem k_P {M : MD} {x : MethodName} {o : ER} {a : EA} {idx n d ciS : Nat} (h0 : FER X own cc nL rt ini R k pc p1 o) (h1 : FEA X own cc nL rt ini R (k + 1) p1 p2 n a) (hs : UOK own idx x M ciS n) (hk8 : k ≤ 8) (hR1 : d + 1 ≤ R.frames) (hR2 : 8 + (M.2.2.1 + 11) + 48 * d ≤ R.locals) (hd : decode cc p2 = .ok (.invokespecial idx, 3)) : FEK X own cc nL rt ini R k pc (p2 + 3) (kP X M d o a) := by
  intro r A env σ st K hk hf hK
  refine h0 r A env σ st _ hk hf (fun b σ1 hb => ?_)
  refine h1 r A env σ1 (.ref b :: st) _ (cats_r hk) hb (fun vs σ2 hln hv => ?_)
  obtain ⟨c3, hc⟩ := hv
  unfold onO at c3
  split at c3
  · rename_i q hq
    obtain ⟨ci, fs⟩ := q
    intro H locs ls hH hn hS hl he
    obtain ⟨s0, sy, s1, s2, s3, s4, s5, s6, s7, s8, s9⟩ := hs
    have hts := A.2.2.2.2.2.1
    obtain ⟨-, rr, hr', cellB, y1, y2, y3, -⟩ := hH b _ hq
    obtain ⟨kB, hkB, -⟩ := (A.2.2.2.2.2.2.1.1 ci rr hr').2.2
    have hM := call0 hc
    have hK2 : Back X.1 R r.1 r.2.1 r.2.2.2.2.2.1 r.2.2.1 r.2.2.2.2.1 M.1 3 8 (PreOf R 0 0 (PcOf X (.ref b :: vs) σ2.1 σ2.2.1)) (PostOf (QcOf X (fun rv h' nx' => K rv (h', (nx', (σ2.2.2.1 + 0, σ2.2.2.2 + 0))))) 0 0 (AX X)) :=
      back_of (bytes := M.2.1) (maxL := M.2.2.1) (ret := M.2.2.2) hM pc_blind rfl rfl hR1 hR2 (pay_in hts (good_of (ws_in s7))) List.mem_cons_self (fun a' U hW => word_at hW (Or.inl (by first | rfl | simp [Cond.onTables, Cond.keeps, Cond.steady])) (hts _ s6))
    obtain ⟨mk, methM, hnamed, hmethM, hstM, habM⟩ := Cond.instanceMethod_spec (hts _ s5)
    obtain ⟨methM', cM, hmethM', -, -, -, -, -, -, hsigM⟩ := Cond.code_spec hnamed (hts _ s7)
    cases hmethM.symm.trans hmethM'
    obtain ⟨ps, dk, kp, hps, hdk, hkp, hsuper, -, -, hnid⟩ := Cond.superclass_spec A.2.2.2.2.1 (hts _ s3)
    have hn1 : r.2.2.1.methodNamed? ⟨M.1.cls, x.name, x.desc⟩ = some mk := sy ▸ hnamed
    have hmk : r.2.2.1.vm.findClass M.1.cls = some mk.cls := findClass_of_methodNamed hnamed
    have hsub : r.2.2.1.vm.isSubclass ps mk.cls = true := by
      rcases s4 with s4 | s4
      · rw [s4] at hps
        have e : ps = mk.cls := Option.some.inj (hps.symm.trans hmk)
        rw [e]; simp [Vm.isSubclass, Vm.isSubclassAux]
      · obtain ⟨p2', k2, kp2, e1, e2, e3, e4, -⟩ := Cond.superclass_spec hps (hts _ s4)
        have e5 : p2' = mk.cls := Option.some.inj (e1.symm.trans hmk)
        subst e5
        have hz : ∃ z, r.2.2.1.vm.classes.size = z + 1 := by
          have := (Array.getElem?_eq_some_iff.mp e2).1
          exact ⟨r.2.2.1.vm.classes.size - 1, by omega⟩
        obtain ⟨z, hz⟩ := hz
        simp [Vm.isSubclass, Vm.isSubclassAux, hz, e2, e4]
    have hrun : va_Run r.1 X.1 r.2.1 R r.2.2.1 r.2.2.2.1 r.2.2.2.2.1 r.2.2.2.2.2.1 r.2.2.2.2.2.2.1 r.2.2.2.2.2.2.2.1 H locs σ2.2.2.1 σ2.2.2.2 0 0 (F0 r.2.2.2.1 p2 ls (vs.reverse ++ .ref b :: st)) st (QcOf X (fun rv h' nx' => K rv (h', (nx', (σ2.2.2.1 + 0, σ2.2.2.2 + 0)))) (Value.ref b :: vs).toArray) (AX X) := by
      intro T hT Y
      have hlen9 : ∀ sig, parseMethodDescriptor M.1.desc = some sig → vs.length = sig.parameters.length := fun sig hsg => by
        have e : M.1.desc = x.desc := by rw [sy]
        rw [e] at hsg
        rw [hsg] at s9
        exact hln.trans (Option.some.inj s9).symm
      obtain ⟨vm₁, X₁, hstep₁⟩ := Y.invokespecialUp A.1 A.2.2.2.2.1 (hts _ s1) (hts _ s2) hn1 hmethM hstM habM s8 hdk hnid hps hsuper hsub (a := b) (cell := cellB) (by rw [hT]; exact y1)
        (fun z h => by rw [y3] at h; cases h) (by rw [y2]; exact hkB) (g := F0 r.2.2.2.1 p2 ls (vs.reverse ++ .ref b :: st)) rfl (argsL := vs) (rest := st) (hlen9 _ hsigM) rfl (by rw [A.2.1]; exact hd)
      obtain ⟨v, B, X', hpost, hsteps⟩ := hK2 _ _ _ ⟨T.setVm vm₁, locs, σ2.2.2.1, σ2.2.2.2⟩ { F0 r.2.2.2.1 p2 ls (vs.reverse ++ .ref b :: st) with stack := st } (.invokespecial idx) mk (Value.ref b :: vs).toArray X₁ rfl (hl.1.trans A.2.2.2.1.symm) (by rw [A.2.1]; exact hd) (lv_room (Nat.le_trans hk hk8)) (X₁.named hnamed) ⟨he.2.1, he.2.2, pre_of A.2.2.2.2.2.2.1 A.2.2.2.2.2.2.2.2.2.1 A.2.2.2.2.2.2.2.2.2.2 hH hn hS (T.setVm vm₁) hT X₁.warmed⟩
      obtain ⟨g', mk', t, L, e1, e2, hq', h1, hL, h2, h3⟩ := hpost
      obtain ⟨U', l2, c2, s2'⟩ := B
      dsimp only [Pt.U, Pt.locs, Pt.cells, Pt.slots] at X' e1 e2 h1 h2 h3 hsteps
      subst h1; subst h2; subst h3
      exact ⟨v, (T.setVm vm₁).calling g' mk' (Value.ref b :: vs).toArray, t, U', L, hT, X', hL, e1, e2, hq', fun target h => hstep₁ _ (by rw [doInvoke_state]; exact hsteps.trans h)⟩
    exact call_go hrun hS (fun rv h' nx' H1 locs1 g1 g2 g3 g4 => hK _ _ g1 H1 locs1 ls g2 g3 g4 hl ⟨he.1, he.2.1, he.2.2⟩)
  · exact c3.elim
def jmax (x y : Int32) : Int32 := if x < y then y else x
def jmin (x y : Int32) : Int32 := if y < x then y else x
def jabs (x : Int32) : Int32 := if 0 ≤ x then x else 0 - x
def jabsl (x : Int64) : Int64 := if 0 < x then x else -x
def xmax (f g : EI) : EI := fun env σ K => f env σ (fun x σ1 => g env σ1 (fun y σ2 => K (jmax x y) σ2))
def xmin (f g : EI) : EI := fun env σ K => f env σ (fun x σ1 => g env σ1 (fun y σ2 => K (jmin x y) σ2))
def xabs (f : EI) : EI := fun env σ K => f env σ (fun x σ1 => K (jabs x) σ1)
def xabsl (f : EL) : EL := fun env σ K => f env σ (fun x σ1 => K (jabsl x) σ1)
theorem cats_le {st : List Value} {k n : Nat} (h : cats st ≤ k) (h2 : k + n ≤ R.locals) : (st.map fun v => v.category).sum + n ≤ R.locals := by
  have h3 : (st.map fun v => v.category).sum ≤ k := h
  omega
theorem r_max {f g : EI} {idx : Nat} (h1 : FEI X own cc nL rt ini R k pc p1 f) (h2 : FEI X own cc nL rt ini R (k + 1) p1 p2 g) (hw : Cond.methodLink own idx Lib.Math.max.name ∈ lw_good) (hR1 : 1 ≤ R.frames) (hR2 : k + 13 ≤ R.locals) (hd : decode cc p2 = .ok (.invokestatic idx, 3)) : FEI X own cc nL rt ini R k pc (p2 + 3) (xmax f g) := by
  intro r A env σ st K hk hf hK
  refine h1 r A env σ st _ hk hf (fun x σ1 hx => ?_)
  refine h2 r A env σ1 (.int x :: st) _ (cats_i hk) hx (fun y σ2 hy => ?_)
  intro H locs ls hH hn hS hl he
  exact va_mmax A.1 A.2.1 (A.2.2.2.1.trans hl.1.symm) A.2.2.2.2.1 (A.2.2.2.2.2.1 _ hw) (A.2.2.2.2.2.1 _ (tg (52 + 330) (by decide +kernel) rfl)) (A.2.2.2.2.2.1 _ (tg (52 + 10) (by decide +kernel) rfl)) (A.2.2.2.2.2.1 _ (tg (52 + 331) (by decide +kernel) rfl)) hR1 (cats_le hk hR2) he.2.1 he.2.2 hd (hK _ _ hy H locs ls hH hn hS hl he)
theorem r_min {f g : EI} {idx : Nat} (h1 : FEI X own cc nL rt ini R k pc p1 f) (h2 : FEI X own cc nL rt ini R (k + 1) p1 p2 g) (hw : Cond.methodLink own idx Lib.Math.min.name ∈ lw_good) (hR1 : 1 ≤ R.frames) (hR2 : k + 13 ≤ R.locals) (hd : decode cc p2 = .ok (.invokestatic idx, 3)) : FEI X own cc nL rt ini R k pc (p2 + 3) (xmin f g) := by
  intro r A env σ st K hk hf hK
  refine h1 r A env σ st _ hk hf (fun x σ1 hx => ?_)
  refine h2 r A env σ1 (.int x :: st) _ (cats_i hk) hx (fun y σ2 hy => ?_)
  intro H locs ls hH hn hS hl he
  exact va_mmin A.1 A.2.1 (A.2.2.2.1.trans hl.1.symm) A.2.2.2.2.1 (A.2.2.2.2.2.1 _ hw) (A.2.2.2.2.2.1 _ (tg (52 + 333) (by decide +kernel) rfl)) (A.2.2.2.2.2.1 _ (tg (52 + 10) (by decide +kernel) rfl)) (A.2.2.2.2.2.1 _ (tg (52 + 334) (by decide +kernel) rfl)) hR1 (cats_le hk hR2) he.2.1 he.2.2 hd (hK _ _ hy H locs ls hH hn hS hl he)
theorem r_abs {f : EI} {idx : Nat} (h1 : FEI X own cc nL rt ini R k pc p1 f) (hw : Cond.methodLink own idx Lib.Math.abs.name ∈ lw_good) (hR1 : 1 ≤ R.frames) (hR2 : k + 13 ≤ R.locals) (hd : decode cc p1 = .ok (.invokestatic idx, 3)) : FEI X own cc nL rt ini R k pc (p1 + 3) (xabs f) := by
  intro r A env σ st K hk hf hK
  refine h1 r A env σ st _ hk hf (fun x σ1 hx => ?_)
  intro H locs ls hH hn hS hl he
  exact va_mabs A.1 A.2.1 (A.2.2.2.1.trans hl.1.symm) A.2.2.2.2.1 (A.2.2.2.2.2.1 _ hw) (A.2.2.2.2.2.1 _ (tg (52 + 592) (by decide +kernel) rfl)) (A.2.2.2.2.2.1 _ (tg (52 + 10) (by decide +kernel) rfl)) (A.2.2.2.2.2.1 _ (tg (52 + 593) (by decide +kernel) rfl)) hR1 (cats_le hk hR2) he.2.1 he.2.2 hd (hK _ _ hx H locs ls hH hn hS hl he)
theorem r_absl {f : EL} {idx : Nat} (h1 : FEL X own cc nL rt ini R k pc p1 f) (hw : Cond.methodLink own idx Lib.MathLoose.abs_long.x ∈ lw_good) (hR1 : 1 ≤ R.frames) (hR2 : k + 13 ≤ R.locals) (hd : decode cc p1 = .ok (.invokestatic idx, 3)) : FEL X own cc nL rt ini R k pc (p1 + 3) (xabsl f) := by
  intro r A env σ st K hk hf hK
  refine h1 r A env σ st _ hk hf (fun x σ1 hx => ?_)
  intro H locs ls hH hn hS hl he
  exact va_mabs_long A.1 A.2.1 (A.2.2.2.1.trans hl.1.symm) A.2.2.2.2.1 (A.2.2.2.2.2.1 _ hw) (A.2.2.2.2.2.1 _ (tg (52 + 759) (by decide +kernel) rfl)) (A.2.2.2.2.2.1 _ (tg (52 + 10) (by decide +kernel) rfl)) (A.2.2.2.2.2.1 _ (tg (52 + 760) (by decide +kernel) rfl)) hR1 (cats_le hk hR2) he.2.1 he.2.2 hd (hK _ _ hx H locs ls hH hn hS hl he)
/-- System.arraycopy over int arrays -/
def sCopy (X : WX) (f : ER) (g1 : EI) (f2 : ER) (g2 g3 : EI) : ST := fun env σ Kn _ _ _ => f env σ (fun a0 σ1 => g1 env σ1 (fun sp σ2 => f2 env σ2 (fun a σ3 => g2 env σ3 (fun dp σ4 => g3 env σ4 (fun n σ5 => onI X (σ5.1 a0) (fun n0 t0 => onI X (σ5.1 a) (fun n1 t1 => ¬ sp < 0 ∧ ¬ dp < 0 ∧ ¬ n < 0 ∧ sp.toNatClampNeg + n.toNatClampNeg ≤ n0 ∧ dp.toNatClampNeg + n.toNatClampNeg ≤ n1 ∧ Kn env (up σ5.1 a (iA X n1 (va_cpy t0 t1 sp.toNatClampNeg dp.toNatClampNeg n.toNatClampNeg)), σ5.2))))))))
theorem s_copy {f f2 : ER} {g1 g2 g3 : EI} {idx : Nat} (h1 : FER X own cc nL rt ini R 0 pc p1 f) (h2 : FEI X own cc nL rt ini R 1 p1 p2 g1) (h3 : FER X own cc nL rt ini R 2 p2 p3 f2) (h4 : FEI X own cc nL rt ini R 3 p3 p4 g2) (h5 : FEI X own cc nL rt ini R 4 p4 p5 g3) (hw : Cond.methodLink own idx arraycopyName ∈ lw_good) (hR1 : 1 ≤ R.frames) (hR2 : nativeFrameWords "java/lang/System" "arraycopy" 5 + 11 ≤ R.locals) (hd : decode cc p5 = .ok (.invokestatic idx, 3)) : FS X own cc nL rt ini R pc (p5 + 3) pb pq (sCopy X f g1 f2 g2 g3) := by
  intro r A env σ Kn Kb Kc Kr hf k1 k2 k3 k4
  refine h1 r A env σ [] _ (Nat.le_refl 0) hf (fun a0 σ1 ha => ?_)
  refine h2 r A env σ1 [.ref a0] _ (Nat.le_refl _) ha (fun sp σ2 hb => ?_)
  refine h3 r A env σ2 [.int sp, .ref a0] _ (Nat.le_refl _) hb (fun a σ3 hc => ?_)
  refine h4 r A env σ3 [.ref a, .int sp, .ref a0] _ (Nat.le_refl _) hc (fun dp σ4 hdp => ?_)
  refine h5 r A env σ4 [.int dp, .ref a, .int sp, .ref a0] _ (Nat.le_refl _) hdp (fun n σ5 hx => ?_)
  obtain ⟨n0, f0, e0, n1, f1, e1, z1, z2, z3, z4, z5, z6⟩ := hx
  intro H locs ls hH hn hS hl he
  have nn : ∀ z : Int32, ¬ z < 0 → z.toInt = (z.toNatClampNeg : Int) := by
    intro z hz
    have hz0 : (0 : Int) ≤ z.toInt := by
      have := Int32.not_lt.mp hz
      simpa using Int32.le_iff_toInt_le.mp this
    show z.toInt = ((z.toInt.toNat : Nat) : Int)
    omega
  intro T hT Y
  have hc0 : H[a0]? = some (vp_cell X.2.2.1.1 (n0, .inl f0)) := (hH a0 _ e0).2
  have hc1 : H[a]? = some (vp_cell X.2.2.1.1 (n1, .inl f1)) := (hH a _ e1).2
  have hts := A.2.2.2.2.2.1
  obtain ⟨-, k0, hk0, cm0, hkk0⟩ := (A.2.2.2.2.2.2.1.2 0 _ rfl).1 n0 (fun j => .int (f0 j))
  obtain ⟨-, kk1, hk1, cm1, hkk1⟩ := (A.2.2.2.2.2.2.1.2 0 _ rfl).1 n1 (fun j => .int (f1 j))
  obtain ⟨vm', X', step⟩ := Y.arraycopy A.1 A.2.2.2.2.1 (hts _ hw) (hts _ (tg (52 + 697) (by decide +kernel) rfl)) (hts _ (tg (52 + 696) (by decide +kernel) rfl)) (hts _ (tg (52 + 21) (by decide +kernel) rfl)) (src := a0) (dst := a) (cs := vp_cell X.2.2.1.1 (n0, .inl f0)) (cd := vp_cell X.2.2.1.1 (n1, .inl f1)) (srcPos := sp) (destPos := dp) (n := n) (by rw [hT]; exact hc0) (by rw [hT]; exact hc1)
    (fun _ h => by cases h) (fun _ h => by cases h) (fun h => by cases h) (fun h => by cases h) hk0 hk1 hkk0 hkk1 (by rfl) z1 z2 z3
    (by rw [nn sp z1, nn n z3]; show ¬ _ > ((arrV X.2.2.1.1 n0 (fun j => .int (f0 j))).slots.size : Int); rw [arrV_size]; omega)
    (by rw [nn dp z2, nn n z3]; show ¬ _ > ((arrV X.2.2.1.1 n1 (fun j => .int (f1 j))).slots.size : Int); rw [arrV_size]; omega)
    (fun vm₁ _ i hi => by
      have e : (vp_cell X.2.2.1.1 (n0, .inl f0)).slots.getD (sp.toNatClampNeg + i) .null = .int (f0 (sp.toNatClampNeg + i)) := by
        show (arrV X.2.2.1.1 n0 (fun j => .int (f0 j))).slots.getD _ _ = _
        rw [Array.getD_eq_getD_getElem?, arrV_read _ _ (by omega)]
        rfl
      refine ⟨?_, ?_⟩
      · rw [e]; rfl
      · rw [e]; exact trivial)
    (g := F0 r.2.2.2.1 p5 ls (.int n :: .int dp :: .ref a :: .int sp :: .ref a0 :: [])) rfl (hl.1.trans A.2.2.2.1.symm) (rest := []) rfl (by rw [A.2.1]; exact hd) hR1 (by show 2 * 0 + 0 + _ ≤ _; omega)
  have e1' : copied (vp_cell X.2.2.1.1 (n0, .inl f0)) (vp_cell X.2.2.1.1 (n1, .inl f1)) sp dp n = vp_cell X.2.2.1.1 (n1, .inl (va_cpy f0 f1 sp.toNatClampNeg dp.toNatClampNeg n.toNatClampNeg)) := va_copied (fun z => .int z) X.2.2.1.1 X.2.2.1.1 f0 f1 z4
  rw [e1'] at X' step
  have hlt : a < H.size := (Array.getElem?_eq_some_iff.mp hc1).1
  have hheap : ((T.setVm vm').setCell a (vp_cell X.2.2.1.1 (n1, .inl (va_cpy f0 f1 sp.toNatClampNeg dp.toNatClampNeg n.toNatClampNeg)))).heap = H.setIfInBounds a (vp_cell X.2.2.1.1 (n1, .inl (va_cpy f0 f1 sp.toNatClampNeg dp.toNatClampNeg n.toNatClampNeg))) := by rw [← hT]; rfl
  have oq : ∀ q : Nat, q ≠ a → (H.setIfInBounds a (vp_cell X.2.2.1.1 (n1, .inl (va_cpy f0 f1 sp.toNatClampNeg dp.toNatClampNeg n.toNatClampNeg))))[q]? = H[q]? := fun q hq => by simp [Array.getElem?_setIfInBounds, Ne.symm hq]
  obtain ⟨t, a1, b1⟩ := k1 _ _ z6 _ _ ls (hH.set oq (hH a _ e1).1 (show (H.setIfInBounds a _)[a]? = some _ by simp [Array.getElem?_setIfInBounds, hlt])) (by simpa using hn) ⟨by simp; exact hS.1, fun q g1 g2 => by
      rw [oq q (fun e => g2 (by rw [e]; exact (hH a _ e1).1))]
      exact hS.2.1 q g1 g2, fun q hq => by
      rcases List.mem_append.mp hq with h | h
      · exact hS.2.2 q h
      · obtain ⟨z, -, hz⟩ := List.mem_map.mp h
        rw [← hz]
        exact (hH a _ e1).1⟩ hl he _ hheap X'
  exact ⟨t, step t a1, b1⟩
end NAT
section NAT2
variable {X : WX} {own : String} {cc : ByteArray} {nL : Nat} {rt : Option FieldType} {ini : Bool} {R : Room} {k pc p1 p2 p3 p4 p5 pt pf pb pq pe : Nat}
/-- o instanceof C: yes, no: places of classes under it, and not -/
def xinst (yes no : List Nat) (o : ER) : EI := fun env σ K => o env σ (fun b σ1 => onO (σ1.1 b) (fun c _ => (c ∈ yes ∧ K 1 σ1) ∨ (c ∈ no ∧ K 0 σ1)))
def IOK (own : String) (idx : Nat) (nm : String) (yes no : List Nat) : Prop := Cond.classLink own idx nm ∈ lw_good ∧ (∀ c ∈ yes, ∃ C : String, (classes[c]?).map (fun q => q.1) = some C ∧ (C = nm ∨ Cond.castable C nm ∈ lw_sp)) ∧ (∀ c ∈ no, ∃ C : String, (classes[c]?).map (fun q => q.1) = some C ∧ (C, nm) ∈ ncL)
theorem r_inst {o : ER} {idx : Nat} {nm : String} {yes no : List Nat} (h0 : FER X own cc nL rt ini R k pc p1 o) (hs : IOK own idx nm yes no) (hd : decode cc p1 = .ok (.instanceof idx, 3)) : FEI X own cc nL rt ini R k pc (p1 + 3) (xinst yes no o) := by
  intro r A env σ st K hk hf hK
  refine h0 r A env σ st _ hk hf (fun b σ1 hb => ?_)
  unfold onO at hb
  split at hb
  · rename_i q hq
    obtain ⟨ci, fs⟩ := q
    intro H locs ls hH hn hS hl he
    obtain ⟨s1, s2, s3⟩ := hs
    rcases hb with ⟨h1, h2⟩ | ⟨h1, h2⟩
    · obtain ⟨C, t1, t2⟩ := s2 _ h1
      rcases t2 with rfl | t2
      · cases hz : classes[ci]? with
        | none => rw [hz] at t1; cases t1
        | some z =>
          have hcl := (A.2.2.2.2.2.2.1.1 ci z hz).2
          rw [hz] at t1; cases t1
          exact va_instS A.1 A.2.1 A.2.2.2.2.1 (A.2.2.2.2.2.1 _ s1) hcl (rcv_at A hH hq (by rw [hz]; rfl)) hd (hK _ _ h2 H locs ls hH hn hS hl he)
      · exact va_instY A.1 A.2.1 A.2.2.2.2.1 (A.2.2.2.2.2.1 _ s1) (A.2.2.2.2.2.2.2.2.2.2.2.2.1 _ t2) (rcv_at A hH hq t1) hd (hK _ _ h2 H locs ls hH hn hS hl he)
    · obtain ⟨C, t1, t2⟩ := s3 _ h1
      exact va_instNo A.1 A.2.1 A.2.2.2.2.1 (A.2.2.2.2.2.1 _ s1) (A.2.2.2.2.2.2.2.2.2.2.2.2.2.2.2.2.1 _ t2) (rcv_at A hH hq t1) hd (hK _ _ h2 H locs ls hH hn hS hl he)
  · exact hb.elim
/-! String constants, and the script -/
def sA (X : WX) (i : Nat) : Nat := X.2.2.2.2.1 i
def sB (X : WX) (i : Nat) : Nat := X.2.2.2.2.2.1 i
def xstr (X : WX) (i : Nat) : ER := fun _ σ K => K (sA X i) σ
theorem r_str {idx i : Nat} {q : String × Nat × String × List Int32} (hq : strS[i]? = some q) (ho : q.1 = own) (hi : q.2.1 = idx) (hd : decode cc pc = .ok (.ldc idx, 2)) : FER X own cc nL rt ini R k pc (pc + 2) (xstr X i) := by
  intro r A env σ st K hk hf hK
  intro H locs ls hH hn hS hl he
  subst ho; subst hi
  exact va_ldcS A.1 A.2.1 A.2.2.2.2.1 (A.2.2.2.2.2.2.2.2.2.2.2.1 i q hq) hd (hK _ _ hf H locs ls hH hn hS hl he)
/-- the script's i-th int -/
def xsld (X : WX) (f : ER) (g : EI) : EI := fun env σ K => f env σ (fun a σ1 => g env σ1 (fun i σ2 => a = X.2.2.2.2.2.2.1 ∧ vp_in i X.2.2.2.2.2.2.2.1 ∧ K (X.2.2.2.2.2.2.2.2 i.toNatClampNeg) σ2))
def xslen (X : WX) (f : ER) : EI := fun env σ K => f env σ (fun a σ1 => a = X.2.2.2.2.2.2.1 ∧ K (Int32.ofNat X.2.2.2.2.2.2.2.1) σ1)
theorem r_sld {f : ER} {g : EI} (h1 : FER X own cc nL rt ini R k pc p1 f) (h2 : FEI X own cc nL rt ini R (k + 1) p1 p2 g) (hd : decode cc p2 = .ok (.iaload, 1)) : FEI X own cc nL rt ini R k pc (p2 + 1) (xsld X f g) := by
  intro r A env σ st K hk hf hK
  refine h1 r A env σ st _ hk hf (fun a σ1 ha => ?_)
  refine h2 r A env σ1 (.ref a :: st) _ (cats_r hk) ha (fun i σ2 hi => ?_)
  obtain ⟨rfl, z1, z2⟩ := hi
  intro H locs ls hH hn hS hl he
  have F := A.2.2.2.2.2.2.2.2.2.2.2.2.2.2.2.2.2
  exact va_sld A.1 A.2.1 F.1 F.2.1 F.2.2 hS z1 hd (hK _ _ z2 H locs ls hH hn hS hl he)
theorem r_slen {f : ER} (h1 : FER X own cc nL rt ini R k pc p1 f) (hd : decode cc p1 = .ok (.arraylength, 1)) : FEI X own cc nL rt ini R k pc (p1 + 1) (xslen X f) := by
  intro r A env σ st K hk hf hK
  refine h1 r A env σ st _ hk hf (fun a σ1 ha => ?_)
  obtain ⟨rfl, z1⟩ := ha
  intro H locs ls hH hn hS hl he
  have F := A.2.2.2.2.2.2.2.2.2.2.2.2.2.2.2.2.2
  exact va_slen A.1 A.2.1 F.1 F.2.1 F.2.2 hS hd (hK _ _ z1 H locs ls hH hn hS hl he)
def xlen (X : WX) (f : ER) : EI := fun env σ K => f env σ (fun a σ1 => onI X (σ1.1 a) (fun n _ => K (Int32.ofNat n) σ1))
theorem r_len {f : ER} (h1 : FER X own cc nL rt ini R k pc p1 f) (hd : decode cc p1 = .ok (.arraylength, 1)) : FEI X own cc nL rt ini R k pc (p1 + 1) (xlen X f) := by
  intro r A env σ st K hk hf hK
  refine h1 r A env σ st _ hk hf (fun a σ1 ha => ?_)
  obtain ⟨n, t, e, z1⟩ := ha
  intro H locs ls hH hn hS hl he
  exact va_alen A.1 A.2.1 A.2.2.2.2.2.2.1 (hH.one e) 0 0 rfl (ty := .int) rfl rfl hd (hK _ _ z1 H locs ls hH hn hS hl he)
/-! switches -/
def AllS (X : WX) (own : String) (cc : ByteArray) (nL : Nat) (rt : Option FieldType) (ini : Bool) (R : Room) (pe pq : Nat) : List (Int32 × ST) → List (Int32 × Nat) → Prop
  | [], [] => True
  | (k, b) :: tb, (k', t) :: tg => k = k' ∧ FS X own cc nL rt ini R t pe pe pq b ∧ AllS X own cc nL rt ini R pe pq tb tg
  | _, _ => False
theorem AllS_look : ∀ (tb : List (Int32 × ST)) (tg : List (Int32 × Nat)), AllS X own cc nL rt ini R pe pq tb tg → ∀ x : Int32, (tg.lookup x = none → tb.lookup x = none) ∧ ∀ t, tg.lookup x = some t → ∃ b, tb.lookup x = some b ∧ FS X own cc nL rt ini R t pe pe pq b := by
  intro tb
  induction tb with
  | nil =>
    intro tg h x
    cases tg with
    | nil => exact ⟨fun _ => rfl, fun t h => (by cases h)⟩
    | cons q tg => exact h.elim
  | cons a tb ih =>
    intro tg h x
    cases tg with
    | nil => exact h.elim
    | cons q tg =>
      obtain ⟨k1, b⟩ := a
      obtain ⟨k2, t2⟩ := q
      obtain ⟨rfl, h2, h3⟩ := h
      simp only [List.lookup_cons]
      by_cases e : x = k1
      · subst e
        simp only [beq_self_eq_true]
        exact ⟨fun h => (by cases h), fun t h => (by cases h; exact ⟨b, rfl, h2⟩)⟩
      · have e2 : (x == k1) = false := by simp [e]
        simp only [e2]
        exact ih tg h3 x
/-- what a tableswitch says fits its list of targets -/
def tswOK (p1 : Nat) (dflt lo hi : Int) (offs : Array Int) (td : Nat) (tg : List (Int32 × Nat)) : Bool :=
  decide ((p1 : Int) + dflt = td) && decide (hi - lo + 1 = offs.size) && decide (-2147483648 ≤ lo ∧ hi ≤ 2147483647) && tg.all (fun q => decide (lo ≤ q.1.toInt ∧ q.1.toInt ≤ hi)) && (List.range offs.size).all (fun j => match tg.lookup (Int32.ofInt (lo + j)) with
    | some t => decide ((p1 : Int) + offs.getD j 0 = t)
    | none => decide (offs.getD j 0 = dflt))
theorem look_mem {α : Type} {tg : List (Int32 × α)} {x : Int32} {t : α} (h : tg.lookup x = some t) : (x, t) ∈ tg := by
  induction tg with
  | nil => cases h
  | cons a l ih =>
    obtain ⟨k, v⟩ := a
    rw [List.lookup_cons] at h
    by_cases e : x = k
    · subst e; simp only [beq_self_eq_true] at h; cases h; exact List.mem_cons_self
    · have e2 : (x == k) = false := by simp [e]
      simp only [e2] at h
      exact List.mem_cons_of_mem _ (ih h)
theorem s_tsw {f : EI} {tbl : List (Int32 × ST)} {dft : ST} {dflt lo hi : Int} {offs : Array Int} {len : Nat} (td : Nat) (tg : List (Int32 × Nat)) (h1 : FEI X own cc nL rt ini R 0 pc p1 f) (hd : decode cc p1 = .ok (.tableswitch dflt lo hi offs, len)) (hok : tswOK p1 dflt lo hi offs td tg = true) (hall : AllS X own cc nL rt ini R pe pq tbl tg) (hdf : FS X own cc nL rt ini R td pe pe pq dft) : FS X own cc nL rt ini R pc pe pb pq (sSw f tbl dft) := by
  intro r A env σ Kn Kb Kc Kr hf g1 g2 g3 g4
  refine h1 r A env σ [] _ (Nat.le_refl 0) hf (fun x σ1 z => ?_)
  simp only [tswOK, Bool.and_eq_true, decide_eq_true_eq, List.all_eq_true, List.mem_range] at hok
  obtain ⟨⟨⟨⟨e1, e2⟩, e3⟩, e4⟩, e5⟩ := hok
  obtain ⟨l1, l2⟩ := AllS_look tbl tg hall x
  have hdef : tg.lookup x = none → WA X nL R r td env [] σ1 := fun hno => by
    rw [l1 hno] at z
    exact hdf r A env σ1 _ _ _ _ z g1 g1 g3 g4
  intro H locs ls hH hn hS hl he
  by_cases hr : x.toInt < lo ∨ hi < x.toInt
  · have hno : tg.lookup x = none := by
      cases hq : tg.lookup x with
      | none => rfl
      | some t =>
        have := e4 _ (look_mem hq)
        simp only at this
        omega
    exact lv_tableOut A.1 A.2.1 hd hr e1 (hdef hno H locs ls hH hn hS hl he)
  · have q1 : ¬ x.toInt < lo := fun q => hr (Or.inl q)
    have q2 : ¬ hi < x.toInt := fun q => hr (Or.inr q)
    have hj : (x.toInt - lo).toNat < offs.size := by omega
    have hx : Int32.ofInt (lo + ((x.toInt - lo).toNat : Nat)) = x := by
      rw [show lo + (((x.toInt - lo).toNat : Nat) : Int) = x.toInt by omega, Int32.ofInt_toInt]
    have h5 := e5 _ hj
    rw [hx] at h5
    have ho : offs[(x.toInt - lo).toNat]? = some (offs.getD (x.toInt - lo).toNat 0) := by
      rw [Array.getD_eq_getD_getElem?, Array.getElem?_eq_getElem hj]; rfl
    cases hq : tg.lookup x with
    | none =>
      rw [hq] at h5
      have h6 : offs.getD (x.toInt - lo).toNat 0 = dflt := by simpa using h5
      exact lv_tableIn A.1 A.2.1 hd q1 q2 ho (by rw [h6]; exact e1) (hdef hq H locs ls hH hn hS hl he)
    | some t =>
      rw [hq] at h5
      obtain ⟨b, hb1, hb2⟩ := l2 t hq
      rw [hb1] at z
      exact lv_tableIn A.1 A.2.1 hd q1 q2 ho (by simpa using h5) (hb2 r A env σ1 _ _ _ _ z g1 g1 g3 g4 H locs ls hH hn hS hl he)
/-- the same of a lookupswitch -/
def lswOK (p1 : Nat) (dflt : Int) (ps : Array (Int × Int)) (td : Nat) (tg : List (Int32 × Nat)) : Bool :=
  decide ((p1 : Int) + dflt = td) && (ps.toList.zip (ps.toList.drop 1)).all (fun (a, next) => a.1 < next.1) && decide (ps.toList.map (fun q => (q.1, (p1 : Int) + q.2)) = tg.map (fun q => (q.1.toInt, (q.2 : Int))))
theorem lsw_off : ∀ (l : List (Int × Int)) (tg : List (Int32 × Nat)) (p1 : Nat) (dflt : Int) (x : Int32), l.map (fun q => (q.1, (p1 : Int) + q.2)) = tg.map (fun q => (q.1.toInt, (q.2 : Int))) →
    (tg.lookup x = none → Op.lookupswitch.offset l dflt x.toInt = dflt) ∧ ∀ t, tg.lookup x = some t → (p1 : Int) + Op.lookupswitch.offset l dflt x.toInt = (t : Int) := by
  intro l
  induction l with
  | nil =>
    intro tg p1 dflt x h
    cases tg with
    | nil => exact ⟨fun _ => rfl, fun t h => (by cases h)⟩
    | cons q tg => simp at h
  | cons a l ih =>
    intro tg p1 dflt x h
    cases tg with
    | nil => simp at h
    | cons q tg =>
      obtain ⟨a1, a2⟩ := a
      obtain ⟨k, t⟩ := q
      simp only [List.map_cons, List.cons.injEq, Prod.mk.injEq] at h
      obtain ⟨⟨h1, h2⟩, h3⟩ := h
      obtain ⟨i1, i2⟩ := ih tg p1 dflt x h3
      rw [List.lookup_cons]
      by_cases e : x = k
      · subst e
        simp only [beq_self_eq_true]
        refine ⟨fun h => (by cases h), fun t' h => ?_⟩
        cases h
        subst h1
        simp [Op.lookupswitch.offset]
        omega
      · have e2 : (x == k) = false := by simp [e]
        simp only [e2]
        rw [lv_osw e h1.symm]
        exact ⟨i1, i2⟩
theorem s_lsw {f : EI} {tbl : List (Int32 × ST)} {dft : ST} {dflt : Int} {ps : Array (Int × Int)} {len : Nat} (td : Nat) (tg : List (Int32 × Nat)) (h1 : FEI X own cc nL rt ini R 0 pc p1 f) (hd : decode cc p1 = .ok (.lookupswitch dflt ps, len)) (hok : lswOK p1 dflt ps td tg = true) (hall : AllS X own cc nL rt ini R pe pq tbl tg) (hdf : FS X own cc nL rt ini R td pe pe pq dft) : FS X own cc nL rt ini R pc pe pb pq (sSw f tbl dft) := by
  intro r A env σ Kn Kb Kc Kr hf g1 g2 g3 g4
  refine h1 r A env σ [] _ (Nat.le_refl 0) hf (fun x σ1 z => ?_)
  simp only [lswOK, Bool.and_eq_true, decide_eq_true_eq] at hok
  obtain ⟨⟨e1, e2⟩, e3⟩ := hok
  obtain ⟨l1, l2⟩ := AllS_look tbl tg hall x
  obtain ⟨o1, o2⟩ := lsw_off ps.toList tg p1 dflt x e3
  intro H locs ls hH hn hS hl he
  cases hq : tg.lookup x with
  | none =>
    rw [l1 hq] at z
    exact lv_lookup A.1 A.2.1 hd e2 rfl (by rw [o1 hq]; exact e1) (hdf r A env σ1 _ _ _ _ z g1 g1 g3 g4 H locs ls hH hn hS hl he)
  | some t =>
    obtain ⟨b, hb1, hb2⟩ := l2 t hq
    rw [hb1] at z
    exact lv_lookup A.1 A.2.1 hd e2 rfl (o2 t hq) (hb2 r A env σ1 _ _ _ _ z g1 g1 g3 g4 H locs ls hH hn hS hl he)
end NAT2
