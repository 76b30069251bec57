/-! small things that the printed proofs of the bodies use; String's methods as calls on constants -/
theorem rm_loc {m d mc ms : Nat} (h : m ≤ 29) : 8 + (m + 11) + 48 * d ≤ (rmOf (d + 1) mc ms).locals := by
  show 8 + (m + 11) + 48 * d ≤ 48 * (d + 1)
  omega
theorem loc_of {n d mc ms : Nat} (h : n ≤ 48) : n ≤ (rmOf (d + 1) mc ms).locals := by
  show n ≤ 48 * (d + 1)
  omega
theorem look_memN {α : Type} {tg : List (Nat × α)} {x : Nat} {t : α} (h : tg.lookup x = some t) : (x, t) ∈ tg := by
  induction tg with
  | nil => cases h
  | cons a l ih =>
    obtain ⟨k, v⟩ := a
    rw [List.lookup_cons] at h
    by_cases e : x = k
    · subst e; simp only [beq_self_eq_true] at h; cases h; exact List.mem_cons_self
    · have e2 : (x == k) = false := by simp [e]
      simp only [e2] at h
      exact List.mem_cons_of_mem _ (ih h)
theorem tg_loc {tg : List (Nat × MD)} {d mc ms : Nat} (h : tg.all (fun q => decide (q.2.2.2.1 ≤ 29)) = true) : ∀ (c : Nat) (M : MD), tg.lookup c = some M → 8 + (M.2.2.1 + 11) + 48 * d ≤ (rmOf (d + 1) mc ms).locals := fun c M hm =>
  rm_loc (by simpa using List.all_eq_true.mp h _ (look_memN hm))
theorem j_FC : ∀ w ∈ w_FC, w ∈ lw_good := fun w hw => List.mem_filter.mpr ⟨i_FC w hw, by
  obtain ⟨k, -, rfl⟩ := List.mem_map.mp hw
  unfold u_lay
  split <;> rfl⟩
def z_FC : List Value := [.null, .null, .null, .null, .null, .null, .int 0, .null]
theorem j_Notes : ∀ w ∈ w_Notes, w ∈ lw_good := fun w hw => List.mem_filter.mpr ⟨i_Notes w hw, by
  obtain ⟨k, -, rfl⟩ := List.mem_map.mp hw
  unfold u_lay
  split <;> rfl⟩
def z_Notes : List Value := [.null, .int 0, .int 0, .null, .null, .int 0, .null, .null, .null, .int 0, .null, .null, .int 0]
theorem j_Trace : ∀ w ∈ w_Trace, w ∈ lw_good := fun w hw => List.mem_filter.mpr ⟨i_Trace w hw, by
  obtain ⟨k, -, rfl⟩ := List.mem_map.mp hw
  unfold u_lay
  split <;> rfl⟩
def z_Trace : List Value := [.null, .int 0]
theorem j_House : ∀ w ∈ w_House, w ∈ lw_good := fun w hw => List.mem_filter.mpr ⟨i_House w hw, by
  obtain ⟨k, -, rfl⟩ := List.mem_map.mp hw
  unfold u_lay
  split <;> rfl⟩
def z_House : List Value := [.int 0, .int 0, .null, .null, .int 0, .null, .int 0, .null, .null, .int 0, .int 0]
theorem j_Person : ∀ w ∈ w_Person, w ∈ lw_good := fun w hw => List.mem_filter.mpr ⟨i_Person w hw, by
  obtain ⟨k, -, rfl⟩ := List.mem_map.mp hw
  unfold u_lay
  split <;> rfl⟩
def z_Person : List Value := [.int 0, .int 0, .null, .null]
theorem j_Learning : ∀ w ∈ w_Learning, w ∈ lw_good := fun w hw => List.mem_filter.mpr ⟨i_Learning w hw, by
  obtain ⟨k, -, rfl⟩ := List.mem_map.mp hw
  unfold u_lay
  split <;> rfl⟩
def z_Learning : List Value := [.int 0, .int 0, .null, .null]
theorem j_Off : ∀ w ∈ w_Off, w ∈ lw_good := fun w hw => List.mem_filter.mpr ⟨i_Off w hw, by
  obtain ⟨k, -, rfl⟩ := List.mem_map.mp hw
  unfold u_lay
  split <;> rfl⟩
def z_Off : List Value := [.int 0, .int 0, .null, .null]
theorem j_Rash : ∀ w ∈ w_Rash, w ∈ lw_good := fun w hw => List.mem_filter.mpr ⟨i_Rash w hw, by
  obtain ⟨k, -, rfl⟩ := List.mem_map.mp hw
  unfold u_lay
  split <;> rfl⟩
def z_Rash : List Value := [.int 0, .int 0, .null, .null]
theorem j_Wise : ∀ w ∈ w_Wise, w ∈ lw_good := fun w hw => List.mem_filter.mpr ⟨i_Wise w hw, by
  obtain ⟨k, -, rfl⟩ := List.mem_map.mp hw
  unfold u_lay
  split <;> rfl⟩
def z_Wise : List Value := [.int 0, .int 0, .null, .null]
theorem j_Chance : ∀ w ∈ w_Chance, w ∈ lw_good := fun w hw => List.mem_filter.mpr ⟨i_Chance w hw, by
  obtain ⟨k, -, rfl⟩ := List.mem_map.mp hw
  unfold u_lay
  split <;> rfl⟩
def z_Chance : List Value := [.int 0, .int 0, .null, .null]
theorem j_Told : ∀ w ∈ w_Told, w ∈ lw_good := fun w hw => List.mem_filter.mpr ⟨i_Told w hw, by
  obtain ⟨k, -, rfl⟩ := List.mem_map.mp hw
  unfold u_lay
  split <;> rfl⟩
def z_Told : List Value := [.int 0, .int 0, .null, .null]
theorem j_Stat : ∀ w ∈ w_Stat, w ∈ lw_good := fun w hw => List.mem_filter.mpr ⟨i_Stat w hw, by
  obtain ⟨k, -, rfl⟩ := List.mem_map.mp hw
  unfold u_lay
  split <;> rfl⟩
def z_Stat : List Value := [.null, .null, .null, .null, .null, .null, .int 0, .int 0, .int 0, .int 0]
theorem j_Mod : ∀ w ∈ w_Mod, w ∈ lw_good := fun w hw => List.mem_filter.mpr ⟨i_Mod w hw, by
  obtain ⟨k, -, rfl⟩ := List.mem_map.mp hw
  unfold u_lay
  split <;> rfl⟩
def z_Mod : List Value := [.int 0, .null, .null, .null, .int 0, .int 0, .int 0, .int 0, .int 0, .int 0, .null, .null, .int 0, .null, .null, .null, .null, .int 0, .null, .null, .int 0, .int 0, .int 0, .int 0]
section GLUE
variable {X : WX} {own : String} {cc : ByteArray} {nL : Nat} {rt : Option FieldType} {ini : Bool} {R : Room} {k pc p1 p2 p3 p4 p5 pt pf pb pq pe : Nat}
theorem s_brk0 : FS X own cc nL rt ini R pb p1 pb pq sBrk := fun r A env σ Kn Kb Kc Kr hf g1 g2 g3 g4 => g2 _ _ hf
def xiter (c : EC) (f g : ER) : ER := fun env σ K => c env σ (fun σ1 => f env σ1 K) (fun σ1 => g env σ1 K)
theorem r_iter {c : EC} {f g : ER} {off : Int} (h : FEC X own cc nL rt ini R k pc pt pf c) (h1 : FER X own cc nL rt ini R k pt p1 f) (d2 : decode cc p1 = .ok (.goto off, 3)) (ht : (p1 : Int) + off = (p2 : Int)) (h2 : FER X own cc nL rt ini R k pf p2 g) : FER X own cc nL rt ini R k pc p2 (xiter c f g) := by
  intro r A env σ st K hk hf hK
  refine h r A env σ st _ _ hk hf (fun σ1 z => ?_) (fun σ1 z => ?_)
  · refine h1 r A env σ1 st _ hk z (fun x σ2 hx => ?_)
    intro H locs ls hH hn hS hl he
    exact lv_goto A.1 A.2.1 d2 ht (hK _ _ hx H locs ls hH hn hS hl he)
  · exact h2 r A env σ1 st _ hk z hK
/-- a call of a method of String on a constant -/
def kT (X : WX) (M : MD) (d : Nat) (o : ER) (a : EA) : EK := fun env σ K => o env σ (fun b σ1 => a env σ1 (fun vs σ2 => (∃ i, i < 14 ∧ b = sA X i) ∧ CALL X M d (.ref b :: vs) σ2.1 (fun rv h' => K rv (h', σ2.2))))
def TOK (own : String) (idx : Nat) (M : MD) (n : Nat) : Prop := Cond.methodLink own idx M.1 ∈ lw_good ∧ Cond.instanceMethod M.1 ∈ lw_good ∧ Cond.selects M.1.cls M.1 M.1 ∈ lw_good ∧ Cond.initialized M.1.cls ∈ lw_good ∧ Cond.code M.1 M.2.1 M.2.2.1 M.2.2.2 ∈ lw_good ∧ M.1.cls = "java/lang/String" ∧ M.1.cls ≠ "java/lang/invoke/MethodHandle" ∧ M.1.cls ≠ "java/lang/invoke/VarHandle" ∧ (parseMethodDescriptor M.1.desc).map (fun d => d.parameters.length) = some n
theorem k_T {M : MD} {o : ER} {a : EA} {idx n d : Nat} (h0 : FER X own cc nL rt ini R k pc p1 o) (h1 : FEA X own cc nL rt ini R (k + 1) p1 p2 n a) (hs : TOK own idx M n) (hk8 : k ≤ 8) (hR1 : d + 1 ≤ R.frames) (hR2 : 8 + (M.2.2.1 + 11) + 48 * d ≤ R.locals) (hd : decode cc p2 = .ok (.invokevirtual idx, 3)) : FEK X own cc nL rt ini R k pc (p2 + 3) (kT X M d o a) := by
  intro r A env σ st K hk hf hK
  refine h0 r A env σ st _ hk hf (fun b σ1 hb => ?_)
  refine h1 r A env σ1 (.ref b :: st) _ (cats_r hk) hb (fun vs σ2 hln hv => ?_)
  obtain ⟨⟨i, hi, rfl⟩, hc⟩ := hv
  intro H locs ls hH hn hS hl he
  obtain ⟨s1, s2, s3, s4, s5, s6, s7, s8, s9⟩ := hs
  have hO := (((A.2.2.2.2.2.2.2.2.2.2.1 i hi).1 0 (by omega)).1.kept (H1 := H) (fun a h1 h2 => hS.2.1 a h1 h2))
  obtain ⟨cellB, y1, y2, y3, -⟩ := hO
  refine call_go (va_runV (C := M.1.cls) (As := vs) (rest := st) ⟨A.1, A.2.1, A.2.2.2.1, A.2.2.2.2.1, A.2.2.2.2.2.1⟩ (call0 hc) (cwV (own := own) (index := idx) (y := M.1) (bytes := M.2.1) (maxL := M.2.2.1) (ret := M.2.2.2) n A.2.2.2.2.2.1 (good_of (va_wsV_in s1 s2 s3 s4 (ws_in s5))) rfl rfl rfl ⟨rfl, s7, s8, s9⟩ ⟨hR1, hR2⟩) ⟨pc_blind, ⟨cellB, y1, y2, by rw [s6]; exact y3⟩, pre_of A.2.2.2.2.2.2.1 A.2.2.2.2.2.2.2.2.2.1 A.2.2.2.2.2.2.2.2.2.2 hH hn hS⟩ rfl hln hl.1 rfl (lv_room (Nat.le_trans hk hk8)) hd he.2) hS (fun rv h' nx' H1 locs1 g1 g2 g3 g4 => hK _ _ g1 H1 locs1 ls g2 g3 g4 hl ⟨he.1, he.2.1, he.2.2⟩)
end GLUE
section GLUE2
variable {X : WX} {own : String} {cc : ByteArray} {nL : Nat} {rt : Option FieldType} {ini : Bool} {R : Room} {k pc p1 p2 p3 q1 pt pf pb pq pe : Nat}
/-- a value that may be left at either of two places -/
def FEI2 (X : WX) (own : String) (cc : ByteArray) (nL : Nat) (rt : Option FieldType) (ini : Bool) (R : Room) (k pc pc1 pc2 : Nat) (f : EI) : Prop := ∀ (r : RX), Act X own cc nL rt ini r → ∀ (env : Lc) (σ : AH) (st : List Value) (K : Int32 → AH → Prop), cats st ≤ k → f env σ K → (∀ v σ', K v σ' → WA X nL R r pc1 env (.int v :: st) σ') → (∀ v σ', K v σ' → WA X nL R r pc2 env (.int v :: st) σ') → WA X nL R r pc env st σ
theorem f2 {f : EI} (h : FEI X own cc nL rt ini R k pc p1 f) : FEI2 X own cc nL rt ini R k pc p1 p2 f := fun r A env σ st K hk hf h1 _ => h r A env σ st K hk hf h1
theorem r_ofC2 {c : EC} {off : Int} (h : FEC X own cc nL rt ini R k pc pt pf c) (d1 : decode cc pt = .ok (.iconst 1, 1)) (d2 : decode cc (pt + 1) = .ok (.goto off, 3)) (ht : ((pt + 1 : Nat) : Int) + off = (p2 : Int)) (d3 : decode cc pf = .ok (.iconst 0, 1)) : FEI2 X own cc nL rt ini R k pc (pf + 1) p2 (xofC c) := by
  intro r A env σ st K hk hf hK hK2
  refine h r A env σ st _ _ hk hf (fun σ1 z => ?_) (fun σ1 z => ?_)
  · intro H locs ls hH hn hS hl he
    refine lv_iconst (v := 1) A.1 A.2.1 d1 (by decide) ?_
    exact lv_goto A.1 A.2.1 d2 ht (hK2 _ _ z H locs ls hH hn hS hl he)
  · intro H locs ls hH hn hS hl he
    exact lv_iconst (v := 0) A.1 A.2.1 d3 (by decide) (hK _ _ z H locs ls hH hn hS hl he)
theorem r_ite2 {c : EC} {f g : EI} {off : Int} (h : FEC X own cc nL rt ini R k pc pt pf c) (h1 : FEI2 X own cc nL rt ini R k pt q1 p2 f) (d2 : decode cc q1 = .ok (.goto off, 3)) (ht : (q1 : Int) + off = (p2 : Int)) (h2 : FEI2 X own cc nL rt ini R k pf p1 p2 g) : FEI2 X own cc nL rt ini R k pc p1 p2 (xite c f g) := by
  intro r A env σ st K hk hf hK hK2
  refine h r A env σ st _ _ hk hf (fun σ1 z => ?_) (fun σ1 z => ?_)
  · refine h1 r A env σ1 st _ hk z (fun x σ2 hx => ?_) hK2
    intro H locs ls hH hn hS hl he
    exact lv_goto A.1 A.2.1 d2 ht (hK2 _ _ hx H locs ls hH hn hS hl he)
  · exact h2 r A env σ1 st _ hk z hK hK2
theorem r_itea {c : EC} {f g : EI} {off : Int} (h : FEC X own cc nL rt ini R k pc pt pf c) (h1 : FEI2 X own cc nL rt ini R k pt q1 p2 f) (d2 : decode cc q1 = .ok (.goto off, 3)) (ht : (q1 : Int) + off = (p2 : Int)) (h2 : FEI X own cc nL rt ini R k pf p2 g) : FEI X own cc nL rt ini R k pc p2 (xite c f g) := by
  intro r A env σ st K hk hf hK
  refine h r A env σ st _ _ hk hf (fun σ1 z => ?_) (fun σ1 z => ?_)
  · refine h1 r A env σ1 st _ hk z (fun x σ2 hx => ?_) hK
    intro H locs ls hH hn hS hl he
    exact lv_goto A.1 A.2.1 d2 ht (hK _ _ hx H locs ls hH hn hS hl he)
  · exact h2 r A env σ1 st _ hk z hK
end GLUE2
