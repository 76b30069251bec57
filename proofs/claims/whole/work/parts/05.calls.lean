/-! rows of the small logic: calls, and a method by its body -/
theorem isSp_tab {w : Cond} (hw : isSp w = true) : w.onTables = true := by
  cases w <;> first | rfl | (simp [isSp] at hw; done)
def rmOf (d mc ms : Nat) : Room := { frames := d, cells := mc, slots := ms, locals := 48 * d }
def wsOf (M : MD) : List Cond := Cond.code M.1 M.2.1 M.2.2.1 M.2.2.2 :: lw_good
def QcOf (X : WX) (K : Option Value → HM → Nat → Prop) : Array Value → State → Outcome → State → Prop := fun _ st oc t => (∃ (rv : Option Value) (h' : HM) (nx' : Nat), oc = .returned rv ∧ K rv h' nx' ∧ HR X h' t.heap ∧ t.heap.size = nx') ∧ va_F (AX X) st t
def PcOf (X : WX) (vs : List Value) (h : HM) (nx : Nat) : Array Value → State → Prop := va_Pc vs (fun U => U.heap.size = nx ∧ HR X h U.heap ∧ va_K X.2.1 classes (tysOf X) U ∧ X.2.2.2.1 ≤ U.heap.size ∧ FX X U U.heap)
/-- a call of M with these values on this heap (whose size is nx) comes back, with an answer and a heap of which K holds; d: how deep calls may go in it; it makes at most mc cells of ms slots -/
def CALLA (X : WX) (M : MD) (d mc ms : Nat) (vs : List Value) (h : HM) (nx : Nat) (K : Option Value → HM → Nat → Prop) : Prop :=
  Met X.1 M.1 (wsOf M) (rmOf d mc ms) (PcOf X vs h nx) (QcOf X K) mc ms (AX X)
/-- the same of a call that makes nothing -/
def CALL (X : WX) (M : MD) (d : Nat) (vs : List Value) (h : HM) (K : Option Value → HM → Prop) : Prop :=
  ∀ nx : Nat, CALLA X M d 0 0 vs h nx (fun rv h' nx' => nx' = nx ∧ K rv h')
theorem FX.same {X : WX} {u U : State} {H : Heap} (hv : U.vm = u.vm) (h : FX X u H) : FX X U H :=
  have ha : u.vm.Alike U.vm := hv ▸ Vm.Alike.refl u.vm
  ⟨fun i hi => (h.1 i hi).moved ha, fun i q hq => (h.2.1 i q hq).same hv, fun w hw => va_Nw.same (isSp_tab (List.mem_filter.mp hw).2) hv.symm (h.2.2.1 w hw), h.2.2.2.1.moved ha, h.2.2.2.2.1.moved ha, h.2.2.2.2.2.1.moved ha, fun q hq => (h.2.2.2.2.2.2.1 q hq).moved ha, h.2.2.2.2.2.2.2.1.moved ha, h.2.2.2.2.2.2.2.2⟩
theorem pc_blind {X : WX} {vs : List Value} {h : HM} {nx : Nat} : FrameBlind (PcOf X vs h nx) := fun a U g mk q => by
  obtain ⟨q0, q1, q2, q3, q4, q5⟩ := q
  exact ⟨q0, q1, q2, va_K.moved (u := U) (U := U.calling g mk a) (Vm.Alike.refl U.vm) q3, q4, FX.same (u := U) (U := U.calling g mk a) (H := U.heap) rfl q5⟩
theorem CALLA.weaken {X : WX} {M : MD} {d mc ms : Nat} {vs : List Value} {h : HM} {nx : Nat} {K K2 : Option Value → HM → Nat → Prop} (hc : CALLA X M d mc ms vs h nx K) (hk : ∀ rv h' nx', K rv h' nx' → K2 rv h' nx') : CALLA X M d mc ms vs h nx K2 := by
  intro p e ha hc2 hk2 s m args below hf hap hP hX
  obtain ⟨k, o, h1, h2, h3, ⟨⟨rv, h', nx', e1, e2, e3⟩, e4⟩, e5⟩ := hc p e ha hc2 hk2 s m args below hf hap hP hX
  exact ⟨k, o, h1, h2, h3, ⟨⟨rv, h', nx', e1, hk _ _ _ e2, e3⟩, e4⟩, e5⟩
section CALLROWS
variable {X : WX} {own : String} {cc : ByteArray} {nL : Nat} {rt : Option FieldType} {ini : Bool} {R : Room} {k pc p1 p2 p3 pt pf pb pq pe : Nat}
theorem call_go {p : Program} {e : Env} {s : State} {m : MethodId} {args : Array Value} {below : List Frame} {meth : Method} {c : Code} {H : Heap} {locs : List Loc} {cells slots mc ms : Nat} {Q : State → Prop} {ls : Array Slot} {st0 rest : List Value} {a : Array Value} {K : Option Value → HM → Nat → Prop}
    (hr : va_Run p X.1 e R s m args below meth c H locs cells slots mc ms (F0 m pc ls st0) rest (QcOf X K a) (AX X)) (hS : va_S (AX X) s.heap H locs)
    (kk : ∀ (rv : Option Value) (h' : HM) (nx' : Nat) (H1 : Heap) (locs1 : List Loc), K rv h' nx' → HR X h' H1 → H1.size = nx' → va_S (AX X) s.heap H1 locs1 → W p X.1 e R s m args below meth c H1 locs1 (cells + mc) (slots + ms) Q (F0 m (pc + 3) ls (rv.toList ++ rest))) :
    W p X.1 e R s m args below meth c H locs cells slots Q (F0 m pc ls st0) := by
  intro T hT Y
  obtain ⟨v, st₀, t, T', L, h0, Y', hL, e1, e2, ⟨⟨rv, h', nx', hv, hp, hb, hz0⟩, hz, hk⟩, st⟩ := hr T hT Y
  cases hv
  rw [h0] at hz hk
  obtain ⟨t2, a1, b1⟩ := kk v h' nx' T'.heap (locs ++ L) hp (by rw [e1]; exact hb) (by rw [e1]; exact hz0)
    ⟨Nat.le_trans hS.1 (by rw [e1]; exact hz), fun q h1 h2 => by rw [e1, hk q (Nat.lt_of_lt_of_le h1 hS.1) h2]; exact hS.2.1 q h1 h2, fun q hq => by
      rcases List.mem_append.mp hq with h | h
      · exact hS.2.2 q h
      · exact hL q h⟩ T' rfl Y'
  exact ⟨t2, st t2 a1, b1⟩
/-- what a call leaves: the answer, if there is one -/
abbrev EK : Type := Lc → AH → (Option Value → AH → Prop) → Prop
def FEK (X : WX) (own : String) (cc : ByteArray) (nL : Nat) (rt : Option FieldType) (ini : Bool) (R : Room) (k pc pc' : Nat) (f : EK) : Prop := ∀ (r : RX), Act X own cc nL rt ini r → ∀ (env : Lc) (σ : AH) (st : List Value) (K : Option Value → AH → Prop), cats st ≤ k → f env σ K → (∀ rv σ', K rv σ' → WA X nL R r pc' env (rv.toList ++ st) σ') → WA X nL R r pc env st σ
def kI (f : EK) : EI := fun env σ K => f env σ (fun rv σ' => match rv with
  | some (.int x) => K x σ'
  | _ => False)
def kL (f : EK) : EL := fun env σ K => f env σ (fun rv σ' => match rv with
  | some (.long x) => K x σ'
  | _ => False)
def kR (f : EK) : ER := fun env σ K => f env σ (fun rv σ' => match rv with
  | some (.ref x) => K x σ'
  | _ => False)
def sK (f : EK) : ST := fun env σ Kn _ _ _ => f env σ (fun rv σ' => match rv with
  | none => Kn env σ'
  | _ => False)
def sPop (f : EI) : ST := fun env σ Kn _ _ _ => f env σ (fun _ σ' => Kn env σ')
theorem k_I {f : EK} (h : FEK X own cc nL rt ini R k pc p1 f) : FEI X own cc nL rt ini R k pc p1 (kI f) := by
  intro r A env σ st K hk hf hK
  refine h r A env σ st _ hk hf (fun rv σ' z => ?_)
  split at z
  · exact hK _ _ z
  · exact z.elim
theorem k_L {f : EK} (h : FEK X own cc nL rt ini R k pc p1 f) : FEL X own cc nL rt ini R k pc p1 (kL f) := by
  intro r A env σ st K hk hf hK
  refine h r A env σ st _ hk hf (fun rv σ' z => ?_)
  split at z
  · exact hK _ _ z
  · exact z.elim
theorem k_R {f : EK} (h : FEK X own cc nL rt ini R k pc p1 f) : FER X own cc nL rt ini R k pc p1 (kR f) := by
  intro r A env σ st K hk hf hK
  refine h r A env σ st _ hk hf (fun rv σ' z => ?_)
  split at z
  · exact hK _ _ z
  · exact z.elim
theorem s_K {f : EK} (h : FEK X own cc nL rt ini R 0 pc p1 f) : FS X own cc nL rt ini R pc p1 pb pq (sK f) := by
  intro r A env σ Kn Kb Kc Kr hf g1 g2 g3 g4
  refine h r A env σ [] _ (Nat.le_refl 0) hf (fun rv σ' z => ?_)
  split at z
  · exact g1 _ _ z
  · exact z.elim
theorem s_pop {f : EI} (h : FEI X own cc nL rt ini R 0 pc p1 f) (hd : decode cc p1 = .ok (.pop, 1)) : FS X own cc nL rt ini R pc (p1 + 1) pb pq (sPop f) := by
  intro r A env σ Kn Kb Kc Kr hf g1 g2 g3 g4
  refine h r A env σ [] _ (Nat.le_refl 0) hf (fun x σ' z => ?_)
  intro H locs ls hH hn hS hl he
  exact lv_pop A.1 A.2.1 hd rfl (g1 _ _ z H locs ls hH hn hS hl he)
/-- a static call -/
def kSA (X : WX) (R : Room) (M : MD) (d mc ms : Nat) (a : EA) : EK := fun env σ K => a env σ (fun vs σ1 => σ1.2.2.1 + mc ≤ R.cells ∧ σ1.2.2.2 + ms ≤ R.slots ∧ CALLA X M d mc ms vs σ1.1 σ1.2.1 (fun rv h' nx' => K rv (h', (nx', (σ1.2.2.1 + mc, σ1.2.2.2 + ms)))))
def kS (X : WX) (M : MD) (d : Nat) (a : EA) : EK := fun env σ K => a env σ (fun vs σ1 => CALL X M d vs σ1.1 (fun rv h' => K rv (h', σ1.2)))
/-- the words of a static call of M -/
def SOK (own : String) (idx : Nat) (M : MD) (n : Nat) : Prop := Cond.methodLink own idx M.1 ∈ lw_good ∧ Cond.static M.1 ∈ lw_good ∧ Cond.initialized M.1.cls ∈ lw_good ∧ Cond.code M.1 M.2.1 M.2.2.1 M.2.2.2 ∈ lw_good ∧ M.1.cls ≠ "java/lang/invoke/MethodHandle" ∧ M.1.cls ≠ "java/lang/invoke/VarHandle" ∧ (parseMethodDescriptor M.1.desc).map (fun d => d.parameters.length) = some n
theorem ws_in {M : MD} (h : Cond.code M.1 M.2.1 M.2.2.1 M.2.2.2 ∈ lw_good) : ∀ w ∈ wsOf M, w ∈ lw_good := fun w hw => by
  rcases List.mem_cons.mp hw with rfl | h1
  · exact h
  · exact h1
theorem pre_of {vs : List Value} {s : State} {H : Heap} {h : HM} {nx : Nat} {locs : List Loc} (hK : va_K X.2.1 classes (tysOf X) s) (hb : X.2.2.2.1 ≤ s.heap.size) (hF : FX X s s.heap) (hH : HR X h H) (hn : H.size = nx) (hS : va_S (AX X) s.heap H locs) : ∀ U : State, U.heap = H → s.WarmedH U.vm → PcOf X vs h nx vs.toArray U := fun U hU hW =>
  ⟨rfl, by rw [hU]; exact hn, by rw [hU]; exact hH, va_K.moved hW.alike hK, by rw [hU]; exact Nat.le_trans hb hS.1, by rw [hU]; exact (hF.warm hW).kept hS.1 (fun a h1 h2 => hS.2.1 a h1 h2)⟩
theorem k_SA {M : MD} {a : EA} {idx n d mc ms : Nat} (h1 : FEA X own cc nL rt ini R k pc p1 n a) (hs : SOK own idx M n) (hk8 : k ≤ 8) (hR1 : d + 1 ≤ R.frames) (hR2 : 8 + (M.2.2.1 + 11) + 48 * d ≤ R.locals) (hd : decode cc p1 = .ok (.invokestatic idx, 3)) : FEK X own cc nL rt ini R k pc (p1 + 3) (kSA X R M d mc ms a) := by
  intro r A env σ st K hk hf hK
  refine h1 r A env σ st _ hk hf (fun vs σ1 hln hv => ?_)
  obtain ⟨c1, c2, hc⟩ := hv
  intro H locs ls hH hn hS hl he
  obtain ⟨s1, s2, s3, s4, s5, s6, s7⟩ := hs
  refine call_go (va_runS (As := vs) (rest := st) ⟨A.1, A.2.1, A.2.2.2.1, A.2.2.2.2.1, A.2.2.2.2.2.1⟩ hc (va_cwS (own := own) (index := idx) (y := M.1) (bytes := M.2.1) (maxL := M.2.2.1) (ret := M.2.2.2) n A.2.2.2.2.2.1 (good_of ?_) rfl rfl rfl ⟨s5, s6, s7⟩ ⟨hR1, hR2⟩) ⟨pc_blind, pre_of A.2.2.2.2.2.2.1 A.2.2.2.2.2.2.2.2.2.1 A.2.2.2.2.2.2.2.2.2.2 hH hn hS⟩ rfl hln hl.1 rfl (lv_room (Nat.le_trans hk hk8)) hd ⟨c1, c2⟩) hS (fun rv h' nx' H1 locs1 g1 g2 g3 g4 => hK _ _ g1 H1 locs1 ls g2 g3 g4 hl ⟨he.1, c1, c2⟩)
  intro w hw
  simp only [va_wsS, List.cons_append, List.nil_append, List.mem_cons] at hw
  rcases hw with rfl | rfl | rfl | hw
  · exact s1
  · exact s2
  · exact s3
  · exact ws_in s4 w hw
theorem call0 {M : MD} {d : Nat} {vs : List Value} {σ1 : AH} {K : Option Value → AH → Prop} (hc : CALL X M d vs σ1.1 (fun rv h' => K rv (h', σ1.2))) : CALLA X M d 0 0 vs σ1.1 σ1.2.1 (fun rv h' nx' => K rv (h', (nx', (σ1.2.2.1 + 0, σ1.2.2.2 + 0)))) := by
  refine (hc σ1.2.1).weaken (fun rv h' nx' z => ?_)
  obtain ⟨rfl, g⟩ := z
  exact g
end CALLROWS
