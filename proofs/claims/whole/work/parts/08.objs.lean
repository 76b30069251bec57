/-! rows of the small logic: calls on objects; constructors; a method out of its body -/
theorem va_wsV_in {own C : String} {idx : Nat} {y : MethodName} {ws : List Cond} (h1 : Cond.methodLink own idx y ∈ lw_good) (h2 : Cond.instanceMethod y ∈ lw_good) (h3 : Cond.selects C y y ∈ lw_good) (h4 : Cond.initialized C ∈ lw_good) (h5 : ∀ w ∈ ws, w ∈ lw_good) : ∀ w ∈ wsV own idx C y ws, w ∈ lw_good := by
  intro w hw
  simp only [wsV, List.cons_append, List.nil_append, List.mem_cons] at hw
  rcases hw with rfl | rfl | rfl | rfl | hw
  · exact h1
  · exact h2
  · exact h3
  · exact h4
  · exact h5 w hw
section OBJ
variable {X : WX} {own : String} {cc : ByteArray} {nL : Nat} {rt : Option FieldType} {ini : Bool} {R : Room} {k pc p1 p2 p3 pt pf pb pq pe : Nat}
/-- b.m(..) on an object of the class ci, m its own -/
def kVA (X : WX) (R : Room) (M : MD) (d mc ms ci : Nat) (o : ER) (a : EA) : EK := fun env σ K => o env σ (fun b σ1 => a env σ1 (fun vs σ2 => σ2.2.2.1 + mc ≤ R.cells ∧ σ2.2.2.2 + ms ≤ R.slots ∧ onO (σ2.1 b) (fun c _ => c = ci) ∧ CALLA X M d mc ms (.ref b :: vs) σ2.1 σ2.2.1 (fun rv h' nx' => K rv (h', (nx', (σ2.2.2.1 + mc, σ2.2.2.2 + ms))))))
def kV (X : WX) (M : MD) (d ci : Nat) (o : ER) (a : EA) : EK := fun env σ K => o env σ (fun b σ1 => a env σ1 (fun vs σ2 => onO (σ2.1 b) (fun c _ => c = ci) ∧ CALL X M d (.ref b :: vs) σ2.1 (fun rv h' => K rv (h', σ2.2))))
def VOK (own : String) (idx : Nat) (M : MD) (ci n : Nat) : Prop := (classes[ci]?).map (fun q => q.1) = some M.1.cls ∧ Cond.methodLink own idx M.1 ∈ lw_good ∧ Cond.instanceMethod M.1 ∈ lw_good ∧ Cond.selects M.1.cls M.1 M.1 ∈ lw_good ∧ Cond.initialized M.1.cls ∈ lw_good ∧ Cond.code M.1 M.2.1 M.2.2.1 M.2.2.2 ∈ lw_good ∧ M.1.cls ≠ "java/lang/invoke/MethodHandle" ∧ M.1.cls ≠ "java/lang/invoke/VarHandle" ∧ (parseMethodDescriptor M.1.desc).map (fun d => d.parameters.length) = some n
theorem rcv_at {r : RX} (A : Act X own cc nL rt ini r) {h : HM} {H : Heap} (hH : HR X h H) {b ci : Nat} {fs : List Value} (hb : h b = some (ob ci fs)) {C : String} (hC : (classes[ci]?).map (fun q => q.1) = some C) : ∃ cell : Cell, H[b]? = some cell ∧ cell.vm.isStatics = false ∧ r.2.2.1.vm.findClass C = some cell.cls := by
  cases hq : classes[ci]? with
  | none => rw [hq] at hC; cases hC
  | some q =>
    rw [hq] at hC; cases hC
    exact va_recv A.2.2.2.2.2.2.1 (hH.one hb) hq (q0 := 0) rfl
theorem wa_callV {r : RX} (A : Act X own cc nL rt ini r) {M : MD} {idx n d mc ms ci b : Nat} {vs : List Value} {fs : List Value} {env : Lc} {σ : AH} {st : List Value} {K : Option Value → HM → Nat → Prop} (hk : cats st ≤ 8) (hs : VOK own idx M ci n) (hR1 : d + 1 ≤ R.frames) (hR2 : 8 + (M.2.2.1 + 11) + 48 * d ≤ R.locals) (hln : vs.length = n) (c1 : σ.2.2.1 + mc ≤ R.cells) (c2 : σ.2.2.2 + ms ≤ R.slots) (hb : σ.1 b = some (ob ci fs)) (hc : CALLA X M d mc ms (.ref b :: vs) σ.1 σ.2.1 K) (hd : decode cc pc = .ok (.invokevirtual idx, 3))
    (hK : ∀ rv h' nx', K rv h' nx' → WA X nL R r (pc + 3) env (rv.toList ++ st) (h', (nx', (σ.2.2.1 + mc, σ.2.2.2 + ms)))) : WA X nL R r pc env (vs.reverse ++ .ref b :: st) σ := by
  intro H locs ls hH hn hS hl he
  obtain ⟨s0, s1, s2, s3, s4, s5, s6, s7, s8⟩ := hs
  refine call_go (va_runV (C := M.1.cls) (As := vs) (rest := st) ⟨A.1, A.2.1, A.2.2.2.1, A.2.2.2.2.1, A.2.2.2.2.2.1⟩ hc (cwV (own := own) (index := idx) (y := M.1) (bytes := M.2.1) (maxL := M.2.2.1) (ret := M.2.2.2) n A.2.2.2.2.2.1 (good_of (va_wsV_in s1 s2 s3 s4 (ws_in s5))) rfl rfl rfl ⟨rfl, s6, s7, s8⟩ ⟨hR1, hR2⟩) ⟨pc_blind, rcv_at A hH hb s0, pre_of A.2.2.2.2.2.2.1 A.2.2.2.2.2.2.2.2.2.1 A.2.2.2.2.2.2.2.2.2.2 hH hn hS⟩ rfl hln hl.1 rfl (lv_room hk) hd ⟨c1, c2⟩) hS (fun rv h' nx' H1 locs1 g1 g2 g3 g4 => hK _ _ _ g1 H1 locs1 ls g2 g3 g4 hl ⟨he.1, c1, c2⟩)
theorem k_VA {M : MD} {o : ER} {a : EA} {idx n d mc ms ci : Nat} (h0 : FER X own cc nL rt ini R k pc p1 o) (h1 : FEA X own cc nL rt ini R (k + 1) p1 p2 n a) (hs : VOK own idx M ci n) (hk8 : k ≤ 8) (hR1 : d + 1 ≤ R.frames) (hR2 : 8 + (M.2.2.1 + 11) + 48 * d ≤ R.locals) (hd : decode cc p2 = .ok (.invokevirtual idx, 3)) : FEK X own cc nL rt ini R k pc (p2 + 3) (kVA X R M d mc ms ci o a) := by
  intro r A env σ st K hk hf hK
  refine h0 r A env σ st _ hk hf (fun b σ1 hb => ?_)
  refine h1 r A env σ1 (.ref b :: st) _ (cats_r hk) hb (fun vs σ2 hln hv => ?_)
  obtain ⟨c1, c2, c3, hc⟩ := hv
  unfold onO at c3
  split at c3
  · rename_i q hq
    subst c3
    exact wa_callV A (Nat.le_trans hk hk8) hs hR1 hR2 hln c1 c2 hq hc hd (fun rv h' nx' z => hK _ _ z)
  · exact c3.elim
theorem k_V {M : MD} {o : ER} {a : EA} {idx n d ci : Nat} (h0 : FER X own cc nL rt ini R k pc p1 o) (h1 : FEA X own cc nL rt ini R (k + 1) p1 p2 n a) (hs : VOK own idx M ci n) (hk8 : k ≤ 8) (hR1 : d + 1 ≤ R.frames) (hR2 : 8 + (M.2.2.1 + 11) + 48 * d ≤ R.locals) (hd : decode cc p2 = .ok (.invokevirtual idx, 3)) : FEK X own cc nL rt ini R k pc (p2 + 3) (kV X M d ci o a) := by
  intro r A env σ st K hk hf hK
  refine h0 r A env σ st _ hk hf (fun b σ1 hb => ?_)
  refine h1 r A env σ1 (.ref b :: st) _ (cats_r hk) hb (fun vs σ2 hln hv => ?_)
  obtain ⟨c3, hc⟩ := hv
  unfold onO at c3
  split at c3
  · rename_i q hq
    subst c3
    intro H locs ls hH hn hS hl he
    exact wa_callV A (Nat.le_trans hk hk8) hs hR1 hR2 hln he.2.1 he.2.2 hq (call0 hc) hd (fun rv h' nx' z => hK _ _ z) H locs ls hH hn hS hl he
  · exact c3.elim
theorem k_S {M : MD} {a : EA} {idx n d : Nat} (h1 : FEA X own cc nL rt ini R k pc p1 n a) (hs : SOK own idx M n) (hk8 : k ≤ 8) (hR1 : d + 1 ≤ R.frames) (hR2 : 8 + (M.2.2.1 + 11) + 48 * d ≤ R.locals) (hd : decode cc p1 = .ok (.invokestatic idx, 3)) : FEK X own cc nL rt ini R k pc (p1 + 3) (kS X M d a) := by
  intro r A env σ st K hk hf hK
  refine h1 r A env σ st _ hk hf (fun vs σ1 hln hv => ?_)
  intro H locs ls hH hn hS hl he
  obtain ⟨s1, s2, s3, s4, s5, s6, s7⟩ := hs
  refine call_go (va_runS (As := vs) (rest := st) ⟨A.1, A.2.1, A.2.2.2.1, A.2.2.2.2.1, A.2.2.2.2.2.1⟩ (call0 hv) (va_cwS (own := own) (index := idx) (y := M.1) (bytes := M.2.1) (maxL := M.2.2.1) (ret := M.2.2.2) n A.2.2.2.2.2.1 (good_of ?_) rfl rfl rfl ⟨s5, s6, s7⟩ ⟨hR1, hR2⟩) ⟨pc_blind, pre_of A.2.2.2.2.2.2.1 A.2.2.2.2.2.2.2.2.2.1 A.2.2.2.2.2.2.2.2.2.2 hH hn hS⟩ rfl hln hl.1 rfl (lv_room (Nat.le_trans hk hk8)) hd he.2) hS (fun rv h' nx' H1 locs1 g1 g2 g3 g4 => hK _ _ g1 H1 locs1 ls g2 g3 g4 hl ⟨he.1, he.2.1, he.2.2⟩)
  intro w hw
  simp only [va_wsS, List.cons_append, List.nil_append, List.mem_cons] at hw
  rcases hw with rfl | rfl | rfl | hw
  · exact s1
  · exact s2
  · exact s3
  · exact ws_in s4 w hw
/-- b.m(..) where which m runs hangs on b's class -/
def kD (X : WX) (tg : List (Nat × MD)) (d : Nat) (o : ER) (a : EA) : EK := fun env σ K => o env σ (fun b σ1 => a env σ1 (fun vs σ2 => onO (σ2.1 b) (fun c _ => match tg.lookup c with
  | some M => CALL X M d (.ref b :: vs) σ2.1 (fun rv h' => K rv (h', σ2.2))
  | none => False)))
/-- the words of such a call: x is what the reference names, owner's is what it finds -/
def DOK (own : String) (idx : Nat) (x : MethodName) (owner : String) (n : Nat) (tg : List (Nat × MD)) : Prop := Cond.methodLink own idx x ∈ lw_good ∧ Cond.sameMethod x.cls owner x.name x.desc ∈ lw_good ∧ Cond.instanceMethod ⟨owner, x.name, x.desc⟩ ∈ lw_good ∧ (∃ (b0 : ByteArray) (m0 : Nat) (r0 : Option FieldType), Cond.code ⟨owner, x.name, x.desc⟩ b0 m0 r0 ∈ lw_good) ∧ owner ≠ "java/lang/invoke/MethodHandle" ∧ owner ≠ "java/lang/invoke/VarHandle" ∧ (parseMethodDescriptor x.desc).map (fun d => d.parameters.length) = some n ∧
  ∀ (c : Nat) (M : MD), tg.lookup c = some M → ∃ C : String, (classes[c]?).map (fun q => q.1) = some C ∧ Cond.selects C x M.1 ∈ lw_good ∧ Cond.instanceMethod M.1 ∈ lw_good ∧ Cond.initialized M.1.cls ∈ lw_good ∧ Cond.code M.1 M.2.1 M.2.2.1 M.2.2.2 ∈ lw_good
theorem k_D {tg : List (Nat × MD)} {x : MethodName} {owner : String} {o : ER} {a : EA} {idx n d : Nat} (h0 : FER X own cc nL rt ini R k pc p1 o) (h1 : FEA X own cc nL rt ini R (k + 1) p1 p2 n a) (hs : DOK own idx x owner n tg) (hk8 : k ≤ 8) (hR1 : d + 1 ≤ R.frames) (hR2 : ∀ c M, tg.lookup c = some M → 8 + (M.2.2.1 + 11) + 48 * d ≤ R.locals) (hd : decode cc p2 = .ok (.invokevirtual idx, 3)) : FEK X own cc nL rt ini R k pc (p2 + 3) (kD X tg d o a) := by
  intro r A env σ st K hk hf hK
  refine h0 r A env σ st _ hk hf (fun b σ1 hb => ?_)
  refine h1 r A env σ1 (.ref b :: st) _ (cats_r hk) hb (fun vs σ2 hln hv => ?_)
  unfold onO at hv
  split at hv
  · rename_i q hq
    obtain ⟨c, fs⟩ := q
    split at hv
    · rename_i M hM
      obtain ⟨s1, s2, s3, ⟨b0, m0, r0, s4⟩, s5, s6, s7, s8⟩ := hs
      obtain ⟨C, t1, t2, t3, t4, t5⟩ := s8 c M hM
      intro H locs ls hH hn hS hl he
      refine call_go (va_runU (C := C) (owner := owner) (x := x) (As := vs) (rest := st) ⟨A.1, A.2.1, A.2.2.2.1, A.2.2.2.2.1, A.2.2.2.2.2.1⟩ (call0 hv) (va_cwO (own := own) (index := idx) (y := M.1) (bytes := M.2.1) (maxL := M.2.2.1) (ret := M.2.2.2) n A.2.2.2.2.2.1 (good_of ?_) rfl rfl rfl s4 ⟨s5, s6, s7⟩ ⟨hR1, hR2 c M hM⟩) ⟨pc_blind, rcv_at A hH hq t1, pre_of A.2.2.2.2.2.2.1 A.2.2.2.2.2.2.2.2.2.1 A.2.2.2.2.2.2.2.2.2.2 hH hn hS⟩ rfl hln hl.1 rfl (lv_room (Nat.le_trans hk hk8)) hd he.2) hS (fun rv h' nx' H1 locs1 g1 g2 g3 g4 => hK _ _ g1 H1 locs1 ls g2 g3 g4 hl ⟨he.1, he.2.1, he.2.2⟩)
      intro w hw
      simp only [va_wsO, List.cons_append, List.nil_append, List.mem_cons] at hw
      rcases hw with rfl | rfl | rfl | rfl | rfl | rfl | hw
      · exact s1
      · exact s2
      · exact s3
      · exact t2
      · exact t3
      · exact t4
      · exact ws_in t5 w hw
    · exact hv.elim
  · exact hv.elim
/-- an invokespecial of a constructor on b -/
def COK (own : String) (idx : Nat) (M : MD) (n : Nat) : Prop := Cond.instanceMethod M.1 ∈ lw_good ∧ Cond.initialized M.1.cls ∈ lw_good ∧ Cond.code M.1 M.2.1 M.2.2.1 none ∈ lw_good ∧ M.2.2.2 = none ∧ M.1.name = "<init>" ∧ M.1.cls ≠ "java/lang/invoke/MethodHandle" ∧ M.1.cls ≠ "java/lang/invoke/VarHandle" ∧ (parseMethodDescriptor M.1.desc).map (fun d => d.parameters.length) = some n ∧ (Cond.methodLink own idx M.1 ∈ lw_good ∨ ∃ host, Cond.methodLinkNest own idx M.1 host ∈ lw_sp)
theorem wa_ctor {r : RX} (A : Act X own cc nL rt ini r) {M : MD} {idx n d mc ms b : Nat} {vs : List Value} {env : Lc} {σ : AH} {st : List Value} {K : Option Value → HM → Nat → Prop} (hk : cats st ≤ 8) (hs : COK own idx M n) (hR1 : d + 1 ≤ R.frames) (hR2 : 8 + (M.2.2.1 + 11) + 48 * d ≤ R.locals) (hln : vs.length = n) (c1 : σ.2.2.1 + mc ≤ R.cells) (c2 : σ.2.2.2 + ms ≤ R.slots) (hc : CALLA X M d mc ms (.ref b :: vs) σ.1 σ.2.1 K) (hd : decode cc pc = .ok (.invokespecial idx, 3))
    (hK : ∀ rv h' nx', K rv h' nx' → WA X nL R r (pc + 3) env (rv.toList ++ st) (h', (nx', (σ.2.2.1 + mc, σ.2.2.2 + ms)))) : WA X nL R r pc env (vs.reverse ++ .ref b :: st) σ := by
  intro H locs ls hH hn hS hl he
  obtain ⟨s1, s2, s3, s4, s5, s6, s7, s8, s9⟩ := hs
  have hG : GoodIn lw_good (wsOf M) := good_of (ws_in (by rw [s4]; exact s3))
  have hw : wsOf M = Cond.code M.1 M.2.1 M.2.2.1 none :: lw_good := by rw [wsOf, s4]
  have hp := pre_of (X := X) (vs := .ref b :: vs) A.2.2.2.2.2.2.1 A.2.2.2.2.2.2.2.2.2.1 A.2.2.2.2.2.2.2.2.2.2 hH hn hS
  rcases s9 with s9 | ⟨host, s9⟩
  · exact call_go (va_runI (As := vs) (rest := st) ⟨A.1, A.2.1, A.2.2.2.1, A.2.2.2.2.1, A.2.2.2.2.2.1⟩ hc (cwI n A.2.2.2.2.2.1 hG hw rfl rfl (A.2.2.2.2.2.1 _ s2) (A.2.2.2.2.2.1 _ s9) (A.2.2.2.2.2.1 _ s1) s5 ⟨s6, s7, s8⟩ ⟨hR1, hR2⟩) ⟨pc_blind, hp⟩ rfl hln hl.1 rfl (lv_room hk) hd ⟨c1, c2⟩) hS (fun rv h' nx' H1 locs1 g1 g2 g3 g4 => hK _ _ _ g1 H1 locs1 ls g2 g3 g4 hl ⟨he.1, c1, c2⟩)
  · exact call_go (va_runIN (As := vs) (rest := st) ⟨A.1, A.2.1, A.2.2.2.1, A.2.2.2.2.1, A.2.2.2.2.2.1⟩ hc ⟨va_cnB n A.2.2.2.2.2.1 hG hw rfl rfl (A.2.2.2.2.2.2.2.2.2.2.2.2.1 _ s9) (A.2.2.2.2.2.1 _ s2) ⟨s6, s7, s8⟩ ⟨hR1, hR2⟩, s5, A.2.2.2.2.2.1 _ s1⟩ ⟨pc_blind, hp⟩ rfl hln hl.1 rfl (lv_room hk) hd ⟨c1, c2⟩) hS (fun rv h' nx' H1 locs1 g1 g2 g3 g4 => hK _ _ _ g1 H1 locs1 ls g2 g3 g4 hl ⟨he.1, c1, c2⟩)
/-- new C(args): ci its class, N its slots, M its constructor -/
def xNew (X : WX) (R : Room) (ci N : Nat) (fs0 : List Value) (M : MD) (d mc ms : Nat) (a : EA) : ER := fun env σ K => σ.2.2.1 + 1 ≤ R.cells ∧ σ.2.2.2 + N ≤ R.slots ∧ a env (up σ.1 σ.2.1 (ob ci fs0), (σ.2.1 + 1, (σ.2.2.1 + 1, σ.2.2.2 + N))) (fun vs σ2 => σ2.2.2.1 + mc ≤ R.cells ∧ σ2.2.2.2 + ms ≤ R.slots ∧ CALLA X M d mc ms (.ref σ.2.1 :: vs) σ2.1 σ2.2.1 (fun rv h' nx' => rv = none ∧ K σ.2.1 (h', (nx', (σ2.2.2.1 + mc, σ2.2.2.2 + ms)))))
theorem r_new {M : MD} {a : EA} {fs0 : List Value} {idx idx2 n d mc ms ci N : Nat} (hw : NOK own idx ci N fs0) (hd : decode cc pc = .ok (.new idx, 3)) (hd1 : decode cc (pc + 3) = .ok (.dup, 1)) (h1 : FEA X own cc nL rt ini R (k + 2) (pc + 3 + 1) p2 n a) (hs : COK own idx2 M n) (hk8 : k + 1 ≤ 8) (hR1 : d + 1 ≤ R.frames) (hR2 : 8 + (M.2.2.1 + 11) + 48 * d ≤ R.locals) (hd2 : decode cc p2 = .ok (.invokespecial idx2, 3)) : FER X own cc nL rt ini R k pc (p2 + 3) (xNew X R ci N fs0 M d mc ms a) := by
  intro r A env σ st K hk hf hK
  obtain ⟨z1, z2, z3⟩ := hf
  refine wa_new A hw z1 z2 hd ?_
  have hw2 : WA X nL R r (pc + 3 + 1) env (.ref σ.2.1 :: .ref σ.2.1 :: st) (up σ.1 σ.2.1 (ob ci fs0), (σ.2.1 + 1, (σ.2.2.1 + 1, σ.2.2.2 + N))) := by
    refine h1 r A env _ (.ref σ.2.1 :: .ref σ.2.1 :: st) _ (cats_r (cats_r hk)) z3 (fun vs σ2 hln hv => ?_)
    obtain ⟨c1, c2, hc⟩ := hv
    refine wa_ctor A (Nat.le_trans (cats_r hk) hk8) hs hR1 hR2 hln c1 c2 hc hd2 (fun rv h' nx' z => ?_)
    obtain ⟨rfl, z⟩ := z
    exact hK _ _ z
  intro H locs ls hH hn hS hl he
  exact lv_dup A.1 A.2.1 hd1 rfl (hw2 H locs ls hH hn hS hl he)
/-- this(..) or super(..) in a constructor -/
def sCtor (X : WX) (R : Room) (M : MD) (d mc ms : Nat) (o : ER) (a : EA) : ST := fun env σ Kn _ _ _ => o env σ (fun b σ1 => a env σ1 (fun vs σ2 => σ2.2.2.1 + mc ≤ R.cells ∧ σ2.2.2.2 + ms ≤ R.slots ∧ CALLA X M d mc ms (.ref b :: vs) σ2.1 σ2.2.1 (fun rv h' nx' => rv = none ∧ Kn env (h', (nx', (σ2.2.2.1 + mc, σ2.2.2.2 + ms))))))
theorem s_ctor {M : MD} {o : ER} {a : EA} {idx n d mc ms : Nat} (h0 : FER X own cc nL rt ini R 0 pc p1 o) (h1 : FEA X own cc nL rt ini R 1 p1 p2 n a) (hs : COK own idx M n) (hR1 : d + 1 ≤ R.frames) (hR2 : 8 + (M.2.2.1 + 11) + 48 * d ≤ R.locals) (hd : decode cc p2 = .ok (.invokespecial idx, 3)) : FS X own cc nL rt ini R pc (p2 + 3) pb pq (sCtor X R M d mc ms o a) := by
  intro r A env σ Kn Kb Kc Kr hf g1 g2 g3 g4
  refine h0 r A env σ [] _ (Nat.le_refl 0) hf (fun b σ1 hb => ?_)
  refine h1 r A env σ1 [.ref b] _ (Nat.le_refl _) hb (fun vs σ2 hln hv => ?_)
  obtain ⟨c1, c2, hc⟩ := hv
  refine wa_ctor A (Nat.zero_le _) hs hR1 hR2 hln c1 c2 hc hd (fun rv h' nx' z => ?_)
  obtain ⟨rfl, z⟩ := z
  exact g1 _ _ z
/-- Object's constructor -/
def sObj (o : ER) : ST := fun env σ Kn _ _ _ => o env σ (fun _ σ1 => Kn env σ1)
theorem s_obj {o : ER} {idx : Nat} (h0 : FER X own cc nL rt ini R 0 pc p1 o) (hw : Cond.methodLink own idx objectInit ∈ lw_good) (hR1 : 1 ≤ R.frames) (hR2 : 12 ≤ R.locals) (hd : decode cc p1 = .ok (.invokespecial idx, 3)) : FS X own cc nL rt ini R pc (p1 + 3) pb pq (sObj o) := by
  intro r A env σ Kn Kb Kc Kr hf g1 g2 g3 g4
  refine h0 r A env σ [] _ (Nat.le_refl 0) hf (fun b σ1 hb => ?_)
  intro H locs ls hH hn hS hl he
  exact W.objInit A.1 A.2.1 A.2.2.2.2.1 (A.2.2.2.2.2.1 _ hw) (A.2.2.2.2.2.1 _ (tg (52 + 28) (by decide +kernel) rfl)) (A.2.2.2.2.2.1 _ (tg (52 + 29) (by decide +kernel) rfl)) rfl (hl.1.trans A.2.2.2.1.symm) rfl hd hR1 hR2 (g1 _ _ hb H locs ls hH hn hS hl he)
/-! a method out of its body -/
def aenv : Nat → List Value → Lc
  | n, [] => List.replicate n none
  | n, v :: vs => if v.category = 2 then some v :: none :: aenv (n - 2) vs else some v :: aenv (n - 1) vs
theorem aenv_len : ∀ (vs : List Value) (n : Nat), (lg_sl vs).length ≤ n → (aenv n vs).length = n := by
  intro vs
  induction vs with
  | nil => intro n h; simp [aenv]
  | cons v t ih =>
    intro n h
    have e : lg_sl (v :: t) = (if v.category = 2 then [Slot.val v, .second] else [.val v]) ++ lg_sl t := rfl
    rw [e, List.length_append] at h
    unfold aenv
    by_cases c : v.category = 2
    · rw [if_pos c] at h ⊢
      have := ih (n - 2) (by simp at h; omega)
      simp only [List.length_cons, this]
      simp at h; omega
    · rw [if_neg c] at h ⊢
      have := ih (n - 1) (by simp at h; omega)
      simp only [List.length_cons, this]
      simp at h; omega
theorem prs_rep (n k : Nat) : prs k (List.replicate n (none : Option Value)) = [] := by
  induction n generalizing k with
  | zero => rfl
  | succ n ih => rw [List.replicate_succ, prs, ih]
theorem aenv_args : ∀ (vs : List Value) (n k : Nat) (q : Nat × Value), q ∈ prs k (aenv n vs) → q ∈ lv_args k vs := by
  intro vs
  induction vs with
  | nil => intro n k q h; rw [aenv, prs_rep] at h; cases h
  | cons v t ih =>
    intro n k q h
    unfold aenv at h
    unfold lv_args
    by_cases c : v.category = 2
    · rw [if_pos c] at h ⊢
      rw [prs, prs] at h
      rcases List.mem_cons.mp h with h | h
      · exact h ▸ List.mem_cons_self
      · exact List.mem_cons_of_mem _ (ih _ _ _ h)
    · rw [if_neg c] at h ⊢
      rw [prs] at h
      rcases List.mem_cons.mp h with h | h
      · exact h ▸ List.mem_cons_self
      · exact List.mem_cons_of_mem _ (ih _ _ _ h)
theorem callA_of {M : MD} {body : ST} {d mc ms : Nat} {vs : List Value} {h : HM} {nx : Nat} {K : Option Value → HM → Nat → Prop} (hpl : plainName M.1.cls = true) (hini : ini = true → M.1.name = "<init>")
    (hfs : FS X M.1.cls M.2.1 M.2.2.1 M.2.2.2 ini (rmOf d mc ms) 0 pe pb pq body) (hlen : (lg_sl vs).length ≤ M.2.2.1)
    (hb : body (aenv M.2.2.1 vs) (h, (nx, (0, 0))) (fun _ _ => False) (fun _ _ => False) (fun _ _ => False) (fun rv σ' => K rv σ'.1 σ'.2.1)) : CALLA X M d mc ms vs h nx K := by
  refine Met.ofW (ws' := lw_good) (cc := M.2.1) (maxL := M.2.2.1) (ret := M.2.2.2) hpl rfl ?_
  intro p e s m args below meth c s₁ B hml hv
  obtain ⟨rfl, hsz, hH, hK, hbs, hF⟩ := hv
  have hts := atoms_spec (ws := wsOf M) B.pre
  have A : Act X M.1.cls M.2.1 M.2.2.1 M.2.2.2 ini (p, e, s, m, vs.toArray, below, meth, c, MQ below (QcOf X K) vs.toArray s mc ms (AX X)) :=
    ⟨B.exec, B.bytes, B.returns, hml, findClass_of_methodNamed B.named, fun w hw => hts w (List.mem_cons_of_mem _ hw), hK, B.notSynchronized, fun hi => by rw [← hini hi]; exact (name_of_methodNamed B.named B.method).1, hbs, hF⟩
  have hl := lv_entry vs (n := M.2.2.1) hlen
  rw [lg_entry_eq]
  generalize (lg_sl vs ++ List.replicate (M.2.2.1 - (lg_sl vs).length) Slot.unset).toArray = ls at hl ⊢
  refine hfs _ A (aenv M.2.2.1 vs) (h, (nx, (0, 0))) _ _ _ _ hb (fun _ _ q => q.elim) (fun _ _ q => q.elim) (fun _ _ q => q.elim) ?_ s.heap [] ls hH hsz va_S.rf ⟨hl.1, hl.2.1, fun q hq => hl.2.2 q (aenv_args vs _ 0 q hq)⟩ ⟨aenv_len vs _ hlen, Nat.zero_le _, Nat.zero_le _⟩
  intro rv σ' z H locs hH' hn' hS' he' pc ls'
  have qq : ∀ t : State, t.heap = H → s.WarmedH t.vm → QcOf X K vs.toArray s (.returned rv) t := fun t ht hW => ⟨⟨rv, σ'.1, σ'.2.1, rfl, z, by rw [ht]; exact hH', by rw [ht]; exact hn'⟩, hS'.F ht⟩
  refine ⟨fun e1 e2 e3 => ?_, fun v e1 e2 e3 => ?_, fun v e1 e2 e3 => ?_, fun v e1 e2 e3 => ?_⟩
  · subst e1
    exact W.widen he'.1 he'.2 (W.vret A.1 A.2.1 (A.2.2.1.trans e2) qq hS'.2.2 e3 A.2.2.2.2.2.2.2.1)
  · subst e1
    obtain ⟨ty, e4, e5⟩ := e2
    exact W.widen he'.1 he'.2 (W.zret A.1 A.2.1 (A.2.2.1.trans e4) e5 qq hS'.2.2 e3 A.2.2.2.2.2.2.2.1)
  · subst e1
    exact W.widen he'.1 he'.2 (W.lret A.1 A.2.1 (A.2.2.1.trans e2) qq hS'.2.2 e3 A.2.2.2.2.2.2.2.1)
  · subst e1
    obtain ⟨nm, e4⟩ := e2
    exact W.widen he'.1 he'.2 (W.aret A.1 A.2.1 (A.2.2.1.trans e4) (Or.inl ⟨_, rfl⟩) (Or.inr ⟨_, rfl⟩) qq hS'.2.2 e3 A.2.2.2.2.2.2.2.1)
theorem call_of {M : MD} {body : ST} {d : Nat} {vs : List Value} {h : HM} {K : Option Value → HM → Prop} (hpl : plainName M.1.cls = true) (hini : ini = true → M.1.name = "<init>")
    (hfs : FS X M.1.cls M.2.1 M.2.2.1 M.2.2.2 ini (rmOf d 0 0) 0 pe pb pq body) (hlen : (lg_sl vs).length ≤ M.2.2.1)
    (hb : ∀ g : Nat × (Nat × Nat), body (aenv M.2.2.1 vs) (h, g) (fun _ _ => False) (fun _ _ => False) (fun _ _ => False) (fun rv σ' => σ'.2.1 = g.1 ∧ K rv σ'.1)) : CALL X M d vs h K :=
  fun nx => callA_of hpl hini hfs hlen (hb (nx, (0, 0)))
end OBJ
