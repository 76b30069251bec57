section JDKR
variable {X : WX} {own : String} {cc : ByteArray} {nL : Nat} {rt : Option FieldType} {ini : Bool} {R : Room} {k pc p1 p2 p3 pt pf pb pq pe : Nat}
theorem r_cs (hd : decode cc pc = .ok (.getstatic 38, 3)) : FEI X "java/lang/String" cc nL rt ini R k pc (pc + 3) (xc 1) := by
  intro r A env σ st K hk hf hK
  intro H locs ls hH hn hS hl he
  exact va_gets A.1 A.2.1 A.2.2.2.2.2.2.2.2.2.2.2.2.2.2.1 hS A.2.2.2.2.1 (A.2.2.2.2.2.1 _ (tg (52 + 313) (by decide +kernel) rfl)) (fun _ h => h) hd (hK _ _ hf H locs ls hH hn hS hl he)
/-- a String constant's coder, its bytes, how many, one of them -/
def xcod (X : WX) (f : ER) : EI := fun env σ K => f env σ (fun a σ1 => (∃ i, i < 14 ∧ a = sA X i) ∧ K 0 σ1)
def xval (X : WX) (f : ER) : ER := fun env σ K => f env σ (fun a σ1 => ∃ i, i < 14 ∧ a = sA X i ∧ K (sB X i) σ1)
def xbl (X : WX) (f : ER) : EI := fun env σ K => f env σ (fun a σ1 => ∃ i, i < 14 ∧ a = sB X i ∧ K (Int32.ofNat (lenS.getD i 0)) σ1)
def xbg (X : WX) (f : ER) (g : EI) : EI := fun env σ K => f env σ (fun a σ1 => g env σ1 (fun j σ2 => ∃ i, i < 14 ∧ a = sB X i ∧ vp_in j (lenS.getD i 0) ∧ K ((bytS.getD i []).getD j.toNatClampNeg 0) σ2))
theorem r_cod {f : ER} (h1 : FER X "java/lang/String" cc nL rt ini R k pc p1 f) (hd : decode cc p1 = .ok (.getfield 15, 3)) : FEI X "java/lang/String" cc nL rt ini R k pc (p1 + 3) (xcod X f) := by
  intro r A env σ st K hk hf hK
  refine h1 r A env σ st _ hk hf (fun a σ1 ha => ?_)
  obtain ⟨⟨i, hi, rfl⟩, z⟩ := ha
  intro H locs ls hH hn hS hl he
  exact vk_getf A.1 A.2.1 ((A.2.2.2.2.2.2.2.2.2.2.1 i hi).1 0 (by omega)).2.1 hS A.2.2.2.2.1 (A.2.2.2.2.2.1 _ (tg (52 + 1358) (by decide +kernel) rfl)) (fun _ h => h) hd (hK _ _ z H locs ls hH hn hS hl he)
theorem r_val {f : ER} (h1 : FER X "java/lang/String" cc nL rt ini R k pc p1 f) (hd : decode cc p1 = .ok (.getfield 9, 3)) : FER X "java/lang/String" cc nL rt ini R k pc (p1 + 3) (xval X f) := by
  intro r A env σ st K hk hf hK
  refine h1 r A env σ st _ hk hf (fun a σ1 ha => ?_)
  obtain ⟨i, hi, rfl, z⟩ := ha
  intro H locs ls hH hn hS hl he
  exact vk_getf A.1 A.2.1 ((A.2.2.2.2.2.2.2.2.2.2.1 i hi).1 0 (by omega)).2.2.1 hS A.2.2.2.2.1 (A.2.2.2.2.2.1 _ (tg (52 + 1359) (by decide +kernel) rfl)) (fun _ h => h) hd (hK _ _ z H locs ls hH hn hS hl he)
theorem r_bl {f : ER} (h1 : FER X own cc nL rt ini R k pc p1 f) (hd : decode cc p1 = .ok (.arraylength, 1)) : FEI X own cc nL rt ini R k pc (p1 + 1) (xbl X f) := by
  intro r A env σ st K hk hf hK
  refine h1 r A env σ st _ hk hf (fun a σ1 ha => ?_)
  obtain ⟨i, hi, rfl, z⟩ := ha
  intro H locs ls hH hn hS hl he
  exact va_tlen A.1 A.2.1 ((A.2.2.2.2.2.2.2.2.2.2.1 i hi).1 0 (by omega)).2.2.2 hS rfl hd (hK _ _ z H locs ls hH hn hS hl he)
theorem r_bg {f : ER} {g : EI} (h1 : FER X own cc nL rt ini R k pc p1 f) (h2 : FEI X own cc nL rt ini R (k + 1) p1 p2 g) (hd : decode cc p2 = .ok (.baload, 1)) : FEI X own cc nL rt ini R k pc (p2 + 1) (xbg X f g) := by
  intro r A env σ st K hk hf hK
  refine h1 r A env σ st _ hk hf (fun a σ1 ha => ?_)
  refine h2 r A env σ1 (.ref a :: st) _ (cats_r hk) ha (fun j σ2 hj => ?_)
  obtain ⟨i, hi, rfl, z1, z2⟩ := hj
  intro H locs ls hH hn hS hl he
  exact va_tb A.1 A.2.1 ((A.2.2.2.2.2.2.2.2.2.2.1 i hi).1 0 (by omega)).2.2.2 hS z1 rfl hd (hK _ _ z2 H locs ls hH hn hS hl he)
theorem s_retB {f : EI} (h1 : FEI X own cc nL rt ini R 0 pc p1 f) (hr : rt = some .byte) (hd : decode cc p1 = .ok (.ireturn, 1)) : FS X own cc nL rt ini R pc p2 pb pq (sRetZ f) := by
  intro r A env σ Kn Kb Kc Kr hf g1 g2 g3 g4
  refine h1 r A env σ [] _ (Nat.le_refl 0) hf (fun x σ1 z => ?_)
  intro H locs ls hH hn hS hl he
  refine (g4 _ _ z.2 H locs hH hn hS he.2 p1 ls).2.1 x rfl ⟨_, hr, ?_⟩ hd
  rcases z.1 with rfl | rfl <;> rfl
def sRetC (f : EI) : ST := fun env σ _ _ _ Kr => f env σ (fun x σ1 => (∃ m, m < 128 ∧ x = nI m) ∧ Kr (some (.int x)) σ1)
theorem s_retC {f : EI} (h1 : FEI X own cc nL rt ini R 0 pc p1 f) (hr : rt = some .char) (hd : decode cc p1 = .ok (.ireturn, 1)) : FS X own cc nL rt ini R pc p2 pb pq (sRetC f) := by
  intro r A env σ Kn Kb Kc Kr hf g1 g2 g3 g4
  refine h1 r A env σ [] _ (Nat.le_refl 0) hf (fun x σ1 z => ?_)
  intro H locs ls hH hn hS hl he
  refine (g4 _ _ z.2 H locs hH hn hS he.2 p1 ls).2.1 x rfl ⟨_, hr, ?_⟩ hd
  obtain ⟨m, hm, rfl⟩ := z.1
  exact congrArg Value.int (jch_nI m hm)
def jby (x : Int32) : Int32 := x.toInt8.toInt32
/-- by an equation: the kernel goes too deep else -/
def xi2b (f : EI) : EI := fun env σ K => f env σ (fun x σ1 => ∀ y, y = jby x → K y σ1)
theorem r_i2b {f : EI} (h1 : FEI X own cc nL rt ini R k pc p1 f) (hd : decode cc p1 = .ok (.i2b, 1)) : FEI X own cc nL rt ini R k pc (p1 + 1) (xi2b f) := by
  intro r A env σ st K hk hf hK
  refine h1 r A env σ st _ hk hf (fun x σ1 hx => ?_)
  intro H locs ls hH hn hS hl he
  exact lv_i2b A.1 A.2.1 hd rfl (hK _ _ (hx _ rfl) H locs ls hH hn hS hl he)
/-- where no run comes -/
def sNo : ST := fun _ _ _ _ _ _ => False
theorem s_no : FS X own cc nL rt ini R pc p2 pb pq sNo := fun _ _ _ _ _ _ _ _ hf _ _ _ _ => hf.elim
def xNoI : EI := fun _ _ _ => False
theorem r_noI : FEI X own cc nL rt ini R k pc p1 xNoI := fun _ _ _ _ _ _ _ hf _ => hf.elim
/-- a value of which nothing is known but that it is a reference or null -/
def vQ : EV := fun _ σ K => ∀ v : Value, (v = .null ∨ ∃ t, v = .ref t) → K v σ
theorem v_Q (hd : decode cc pc = .ok (.getstatic 1053, 3)) : FEV X "java/lang/String" cc nL rt ini R k pc (pc + 3) 1 vQ := by
  intro r A env σ st K hk hf hK
  intro H locs ls hH hn hS hl he
  rcases A.2.2.2.2.2.2.2.2.2.2.2.2.2.2.2.1 with z | ⟨t, z⟩
  · exact va_gets A.1 A.2.1 z hS A.2.2.2.2.1 (A.2.2.2.2.2.1 _ (tg (52 + 356) (by decide +kernel) rfl)) (fun _ h => h) hd (hK _ _ rfl (hf .null (Or.inl rfl)) H locs ls hH hn hS hl he)
  · exact va_gets A.1 A.2.1 z hS A.2.2.2.2.1 (A.2.2.2.2.2.1 _ (tg (52 + 356) (by decide +kernel) rfl)) (fun _ h => h) hd (hK _ _ rfl (hf (.ref t) (Or.inr ⟨t, rfl⟩)) H locs ls hH hn hS hl he)
end JDKR
