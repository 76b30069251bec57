/-! rows of the small logic: values, arithmetic, conditions, stores -/
section DEFS
def xi (i : Nat) : EI := fun env σ K => match env[i]? with
  | some (some (.int x)) => K x σ
  | _ => False
def xl (i : Nat) : EL := fun env σ K => match env[i]? with
  | some (some (.long x)) => K x σ
  | _ => False
def xr (i : Nat) : ER := fun env σ K => match env[i]? with
  | some (some (.ref x)) => K x σ
  | _ => False
def xc (v : Int32) : EI := fun _ σ K => K v σ
def xcl (v : Int64) : EL := fun _ σ K => K v σ
def jrem (x y : Int32) : Int32 := x - x / y * y
def jreml (x y : Int64) : Int64 := x - x / y * y
def jshl (x y : Int32) : Int32 := x <<< (y &&& 31)
def jshr (x y : Int32) : Int32 := x >>> (y &&& 31)
def jch (x : Int32) : Int32 := (x.toUInt32 % 65536).toInt32
def xadd (f g : EI) : EI := fun env σ K => f env σ (fun x σ1 => g env σ1 (fun y σ2 => K (x + y) σ2))
def xsub (f g : EI) : EI := fun env σ K => f env σ (fun x σ1 => g env σ1 (fun y σ2 => K (x - y) σ2))
def xmul (f g : EI) : EI := fun env σ K => f env σ (fun x σ1 => g env σ1 (fun y σ2 => K (x * y) σ2))
def xand (f g : EI) : EI := fun env σ K => f env σ (fun x σ1 => g env σ1 (fun y σ2 => K (x &&& y) σ2))
def xor (f g : EI) : EI := fun env σ K => f env σ (fun x σ1 => g env σ1 (fun y σ2 => K (x ||| y) σ2))
def xxor (f g : EI) : EI := fun env σ K => f env σ (fun x σ1 => g env σ1 (fun y σ2 => K (x ^^^ y) σ2))
def xshl (f g : EI) : EI := fun env σ K => f env σ (fun x σ1 => g env σ1 (fun y σ2 => K (jshl x y) σ2))
def xshr (f g : EI) : EI := fun env σ K => f env σ (fun x σ1 => g env σ1 (fun y σ2 => K (jshr x y) σ2))
def xdiv (f g : EI) : EI := fun env σ K => f env σ (fun x σ1 => g env σ1 (fun y σ2 => ¬ y = 0 ∧ K (x / y) σ2))
def xrem (f g : EI) : EI := fun env σ K => f env σ (fun x σ1 => g env σ1 (fun y σ2 => ¬ y = 0 ∧ K (jrem x y) σ2))
def xaddl (f g : EL) : EL := fun env σ K => f env σ (fun x σ1 => g env σ1 (fun y σ2 => K (x + y) σ2))
def xsubl (f g : EL) : EL := fun env σ K => f env σ (fun x σ1 => g env σ1 (fun y σ2 => K (x - y) σ2))
def xmull (f g : EL) : EL := fun env σ K => f env σ (fun x σ1 => g env σ1 (fun y σ2 => K (x * y) σ2))
def xdivl (f g : EL) : EL := fun env σ K => f env σ (fun x σ1 => g env σ1 (fun y σ2 => ¬ y = 0 ∧ K (x / y) σ2))
def xreml (f g : EL) : EL := fun env σ K => f env σ (fun x σ1 => g env σ1 (fun y σ2 => ¬ y = 0 ∧ K (jreml x y) σ2))
def xneg (f : EI) : EI := fun env σ K => f env σ (fun x σ1 => K (-x) σ1)
def xnegl (f : EL) : EL := fun env σ K => f env σ (fun x σ1 => K (-x) σ1)
def xi2l (f : EI) : EL := fun env σ K => f env σ (fun x σ1 => K x.toInt64 σ1)
def xi2c (f : EI) : EI := fun env σ K => f env σ (fun x σ1 => K (jch x) σ1)
def cNot (c : EC) : EC := fun env σ Kt Kf => c env σ Kf Kt
def cAnd (a b : EC) : EC := fun env σ Kt Kf => a env σ (fun σ1 => b env σ1 Kt Kf) Kf
def cOr (a b : EC) : EC := fun env σ Kt Kf => a env σ Kt (fun σ1 => b env σ1 Kt Kf)
def cEq (f g : EI) : EC := fun env σ Kt Kf => f env σ (fun x σ1 => g env σ1 (fun y σ2 => (x = y → Kt σ2) ∧ (¬ x = y → Kf σ2)))
def cLt (f g : EI) : EC := fun env σ Kt Kf => f env σ (fun x σ1 => g env σ1 (fun y σ2 => (x < y → Kt σ2) ∧ (¬ x < y → Kf σ2)))
def cGt (f g : EI) : EC := fun env σ Kt Kf => f env σ (fun x σ1 => g env σ1 (fun y σ2 => (y < x → Kt σ2) ∧ (¬ y < x → Kf σ2)))
def cEq0 (f : EI) : EC := fun env σ Kt Kf => f env σ (fun x σ1 => (x = 0 → Kt σ1) ∧ (¬ x = 0 → Kf σ1))
def cLt0 (f : EI) : EC := fun env σ Kt Kf => f env σ (fun x σ1 => (x < 0 → Kt σ1) ∧ (¬ x < 0 → Kf σ1))
def cGt0 (f : EI) : EC := fun env σ Kt Kf => f env σ (fun x σ1 => (0 < x → Kt σ1) ∧ (¬ 0 < x → Kf σ1))
def cEqL (f g : EL) : EC := fun env σ Kt Kf => f env σ (fun x σ1 => g env σ1 (fun y σ2 => (x = y → Kt σ2) ∧ (¬ x = y → Kf σ2)))
def cLtL (f g : EL) : EC := fun env σ Kt Kf => f env σ (fun x σ1 => g env σ1 (fun y σ2 => (x < y → Kt σ2) ∧ (¬ x < y → Kf σ2)))
def cGtL (f g : EL) : EC := fun env σ Kt Kf => f env σ (fun x σ1 => g env σ1 (fun y σ2 => (y < x → Kt σ2) ∧ (¬ y < x → Kf σ2)))
def xofC (c : EC) : EI := fun env σ K => c env σ (fun σ1 => K 1 σ1) (fun σ1 => K 0 σ1)
def xite (c : EC) (f g : EI) : EI := fun env σ K => c env σ (fun σ1 => f env σ1 K) (fun σ1 => g env σ1 K)
def xitel (c : EC) (f g : EL) : EL := fun env σ K => c env σ (fun σ1 => f env σ1 K) (fun σ1 => g env σ1 K)
def vI (f : EI) : EV := fun env σ K => f env σ (fun x σ1 => K (.int x) σ1)
def vL (f : EL) : EV := fun env σ K => f env σ (fun x σ1 => K (.long x) σ1)
def vR (f : ER) : EV := fun env σ K => f env σ (fun x σ1 => K (.ref x) σ1)
def aN : EA := fun _ σ K => K [] σ
def aC (f : EV) (a : EA) : EA := fun env σ K => f env σ (fun v σ1 => a env σ1 (fun vs σ2 => K (v :: vs) σ2))
def sSkip : ST := fun env σ Kn _ _ _ => Kn env σ
def sSeq (f g : ST) : ST := fun env σ Kn Kb Kc Kr => f env σ (fun e1 σ1 => g e1 σ1 Kn Kb Kc Kr) Kb Kc Kr
def sI (i : Nat) (f : EI) : ST := fun env σ Kn _ _ _ => f env σ (fun x σ1 => Kn (eset env i (.int x)) σ1)
def sL (i : Nat) (f : EL) : ST := fun env σ Kn _ _ _ => f env σ (fun x σ1 => Kn (eset2 env i (.long x)) σ1)
def sR (i : Nat) (f : ER) : ST := fun env σ Kn _ _ _ => f env σ (fun x σ1 => Kn (eset env i (.ref x)) σ1)
def sInc (i : Nat) (n : Int32) : ST := fun env σ Kn _ _ _ => match env[i]? with
  | some (some (.int x)) => Kn (eset env i (.int (x + n))) σ
  | _ => False
def sIf (c : EC) (f g : ST) : ST := fun env σ Kn Kb Kc Kr => c env σ (fun σ1 => f env σ1 Kn Kb Kc Kr) (fun σ1 => g env σ1 Kn Kb Kc Kr)
def sBrk : ST := fun env σ _ Kb _ _ => Kb env σ
def sCnt : ST := fun env σ _ _ Kc _ => Kc env σ
def sRetI (f : EI) : ST := fun env σ _ _ _ Kr => f env σ (fun x σ1 => Kr (some (.int x)) σ1)
def sRetL (f : EL) : ST := fun env σ _ _ _ Kr => f env σ (fun x σ1 => Kr (some (.long x)) σ1)
def sRetR (f : ER) : ST := fun env σ _ _ _ Kr => f env σ (fun x σ1 => Kr (some (.ref x)) σ1)
def sRet : ST := fun _ σ _ _ _ Kr => Kr none σ
/-- a boolean answer: 0 or 1 -/
def sRetZ (f : EI) : ST := fun env σ _ _ _ Kr => f env σ (fun x σ1 => (x = 0 ∨ x = 1) ∧ Kr (some (.int x)) σ1)
def lp (c : EC) (b u : ST) (Kn : KN) (Kr : KR) : Nat → Lc → AH → Prop
  | 0, _, _ => False
  | n + 1, env, σ => c env σ (fun σ1 => b env σ1 (fun e2 σ2 => u e2 σ2 (lp c b u Kn Kr n) (fun _ _ => False) (fun _ _ => False) (fun _ _ => False)) Kn (fun e2 σ2 => u e2 σ2 (lp c b u Kn Kr n) (fun _ _ => False) (fun _ _ => False) (fun _ _ => False)) Kr) (fun σ1 => Kn env σ1)
/-- for (; c; u) b -/
def sFor (c : EC) (b u : ST) : ST := fun env σ Kn _ _ Kr => ∃ n, lp c b u Kn Kr n env σ
/-- a switch: which of the bodies; each goes on behind the switch by break (a body's own end is a break, too) -/
def sSw (f : EI) (tbl : List (Int32 × ST)) (d : ST) : ST := fun env σ Kn _ Kc Kr => f env σ (fun x σ1 => ((tbl.lookup x).getD d) env σ1 Kn Kn Kc Kr)
end DEFS
section ROWS
variable {X : WX} {own : String} {cc : ByteArray} {nL : Nat} {rt : Option FieldType} {ini : Bool} {R : Room} {k pc p1 p2 p3 pt pf pb pq pe : Nat}
theorem r_iload_n {q : Fin 4} {i : Nat} (hd : decode cc pc = .ok (.iload_n q, 1)) (hi : (q : Nat) = i) : FEI X own cc nL rt ini R k pc (pc + 1) (xi i) := by
  intro r A env σ st K hk hf hK H locs ls hH hn hS hl he
  unfold xi at hf
  split at hf
  · rename_i x hx
    exact lv_iload_n A.1 A.2.1 hd hi (lv_env hl hx) (hK _ _ hf H locs ls hH hn hS hl he)
  · exact hf.elim
theorem r_iload {i : Nat} (hd : decode cc pc = .ok (.iload i, 2)) : FEI X own cc nL rt ini R k pc (pc + 2) (xi i) := by
  intro r A env σ st K hk hf hK H locs ls hH hn hS hl he
  unfold xi at hf
  split at hf
  · rename_i x hx
    exact lv_iload A.1 A.2.1 hd (lv_env hl hx) (hK _ _ hf H locs ls hH hn hS hl he)
  · exact hf.elim
theorem r_lload_n {q : Fin 4} {i : Nat} (hd : decode cc pc = .ok (.lload_n q, 1)) (hi : (q : Nat) = i) : FEL X own cc nL rt ini R k pc (pc + 1) (xl i) := by
  intro r A env σ st K hk hf hK H locs ls hH hn hS hl he
  unfold xl at hf
  split at hf
  · rename_i x hx
    exact lv_lload_n A.1 A.2.1 hd hi (lv_env hl hx) (hK _ _ hf H locs ls hH hn hS hl he)
  · exact hf.elim
theorem r_lload {i : Nat} (hd : decode cc pc = .ok (.lload i, 2)) : FEL X own cc nL rt ini R k pc (pc + 2) (xl i) := by
  intro r A env σ st K hk hf hK H locs ls hH hn hS hl he
  unfold xl at hf
  split at hf
  · rename_i x hx
    exact lv_lload A.1 A.2.1 hd (lv_env hl hx) (hK _ _ hf H locs ls hH hn hS hl he)
  · exact hf.elim
theorem r_aload_n {q : Fin 4} {i : Nat} (hd : decode cc pc = .ok (.aload_n q, 1)) (hi : (q : Nat) = i) : FER X own cc nL rt ini R k pc (pc + 1) (xr i) := by
  intro r A env σ st K hk hf hK H locs ls hH hn hS hl he
  unfold xr at hf
  split at hf
  · rename_i x hx
    exact lv_aload_n A.1 A.2.1 hd hi (lv_env hl hx) (hK _ _ hf H locs ls hH hn hS hl he)
  · exact hf.elim
theorem r_aload {i : Nat} (hd : decode cc pc = .ok (.aload i, 2)) : FER X own cc nL rt ini R k pc (pc + 2) (xr i) := by
  intro r A env σ st K hk hf hK H locs ls hH hn hS hl he
  unfold xr at hf
  split at hf
  · rename_i x hx
    exact lv_aload A.1 A.2.1 hd (lv_env hl hx) (hK _ _ hf H locs ls hH hn hS hl he)
  · exact hf.elim
theorem r_iconst {n : Int} {v : Int32} (hd : decode cc pc = .ok (.iconst n, 1)) (hv : Int32.ofInt n = v) : FEI X own cc nL rt ini R k pc (pc + 1) (xc v) := by
  intro r A env σ st K hk hf hK H locs ls hH hn hS hl he
  exact lv_iconst A.1 A.2.1 hd hv (hK _ _ hf H locs ls hH hn hS hl he)
theorem r_bipush {n : Int} {v : Int32} (hd : decode cc pc = .ok (.bipush n, 2)) (hv : (Int8.ofInt n).toInt32 = v) : FEI X own cc nL rt ini R k pc (pc + 2) (xc v) := by
  intro r A env σ st K hk hf hK H locs ls hH hn hS hl he
  exact lv_bipush A.1 A.2.1 hd hv (hK _ _ hf H locs ls hH hn hS hl he)
theorem r_sipush {n : Int} {v : Int32} (hd : decode cc pc = .ok (.sipush n, 3)) (hv : (Int16.ofInt n).toInt32 = v) : FEI X own cc nL rt ini R k pc (pc + 3) (xc v) := by
  intro r A env σ st K hk hf hK H locs ls hH hn hS hl he
  exact lv_sipush A.1 A.2.1 hd hv (hK _ _ hf H locs ls hH hn hS hl he)
theorem r_lconst {n : Fin 2} {v : Int64} (hd : decode cc pc = .ok (.lconst n, 1)) (hv : Int64.ofNat (n : Nat) = v) : FEL X own cc nL rt ini R k pc (pc + 1) (xcl v) := by
  intro r A env σ st K hk hf hK H locs ls hH hn hS hl he
  exact lv_lconst A.1 A.2.1 hd hv (hK _ _ hf H locs ls hH hn hS hl he)
theorem r_ldc {q : Nat} {v : Int32} (hc : Cond.constant own q v ∈ lw_good) (hd : decode cc pc = .ok (.ldc q, 2)) : FEI X own cc nL rt ini R k pc (pc + 2) (xc v) := by
  intro r A env σ st K hk hf hK H locs ls hH hn hS hl he
  exact lv_ldc A.1 A.2.1 A.2.2.2.2.1 (A.2.2.2.2.2.1 _ hc) hd (hK _ _ hf H locs ls hH hn hS hl he)
theorem r_ldc2 {q : Nat} {v : Int64} (hc : Cond.constantLong own q v ∈ lw_good) (hd : decode cc pc = .ok (.ldc2_w q, 3)) : FEL X own cc nL rt ini R k pc (pc + 3) (xcl v) := by
  intro r A env σ st K hk hf hK H locs ls hH hn hS hl he
  exact lv_ldc2 A.1 A.2.1 A.2.2.2.2.1 (A.2.2.2.2.2.1 _ hc) hd (hK _ _ hf H locs ls hH hn hS hl he)
theorem r_add {f g : EI} (h1 : FEI X own cc nL rt ini R k pc p1 f) (h2 : FEI X own cc nL rt ini R (k + 1) p1 p2 g) (hd : decode cc p2 = .ok (.iadd, 1)) : FEI X own cc nL rt ini R k pc (p2 + 1) (xadd f g) := by
  intro r A env σ st K hk hf hK
  refine h1 r A env σ st _ hk hf (fun x σ1 hx => ?_)
  refine h2 r A env σ1 (.int x :: st) _ (cats_i hk) hx (fun y σ2 hy => ?_)
  intro H locs ls hH hn hS hl he
  exact lv_iadd A.1 A.2.1 hd (hK _ _ hy H locs ls hH hn hS hl he)
theorem r_sub {f g : EI} (h1 : FEI X own cc nL rt ini R k pc p1 f) (h2 : FEI X own cc nL rt ini R (k + 1) p1 p2 g) (hd : decode cc p2 = .ok (.isub, 1)) : FEI X own cc nL rt ini R k pc (p2 + 1) (xsub f g) := by
  intro r A env σ st K hk hf hK
  refine h1 r A env σ st _ hk hf (fun x σ1 hx => ?_)
  refine h2 r A env σ1 (.int x :: st) _ (cats_i hk) hx (fun y σ2 hy => ?_)
  intro H locs ls hH hn hS hl he
  exact lv_isub A.1 A.2.1 hd (hK _ _ hy H locs ls hH hn hS hl he)
theorem r_mul {f g : EI} (h1 : FEI X own cc nL rt ini R k pc p1 f) (h2 : FEI X own cc nL rt ini R (k + 1) p1 p2 g) (hd : decode cc p2 = .ok (.imul, 1)) : FEI X own cc nL rt ini R k pc (p2 + 1) (xmul f g) := by
  intro r A env σ st K hk hf hK
  refine h1 r A env σ st _ hk hf (fun x σ1 hx => ?_)
  refine h2 r A env σ1 (.int x :: st) _ (cats_i hk) hx (fun y σ2 hy => ?_)
  intro H locs ls hH hn hS hl he
  exact lv_imul A.1 A.2.1 hd (hK _ _ hy H locs ls hH hn hS hl he)
theorem r_and {f g : EI} (h1 : FEI X own cc nL rt ini R k pc p1 f) (h2 : FEI X own cc nL rt ini R (k + 1) p1 p2 g) (hd : decode cc p2 = .ok (.iand, 1)) : FEI X own cc nL rt ini R k pc (p2 + 1) (xand f g) := by
  intro r A env σ st K hk hf hK
  refine h1 r A env σ st _ hk hf (fun x σ1 hx => ?_)
  refine h2 r A env σ1 (.int x :: st) _ (cats_i hk) hx (fun y σ2 hy => ?_)
  intro H locs ls hH hn hS hl he
  exact lv_iand A.1 A.2.1 hd (hK _ _ hy H locs ls hH hn hS hl he)
theorem r_or {f g : EI} (h1 : FEI X own cc nL rt ini R k pc p1 f) (h2 : FEI X own cc nL rt ini R (k + 1) p1 p2 g) (hd : decode cc p2 = .ok (.ior, 1)) : FEI X own cc nL rt ini R k pc (p2 + 1) (xor f g) := by
  intro r A env σ st K hk hf hK
  refine h1 r A env σ st _ hk hf (fun x σ1 hx => ?_)
  refine h2 r A env σ1 (.int x :: st) _ (cats_i hk) hx (fun y σ2 hy => ?_)
  intro H locs ls hH hn hS hl he
  exact lv_ior A.1 A.2.1 hd (hK _ _ hy H locs ls hH hn hS hl he)
theorem r_xor {f g : EI} (h1 : FEI X own cc nL rt ini R k pc p1 f) (h2 : FEI X own cc nL rt ini R (k + 1) p1 p2 g) (hd : decode cc p2 = .ok (.ixor, 1)) : FEI X own cc nL rt ini R k pc (p2 + 1) (xxor f g) := by
  intro r A env σ st K hk hf hK
  refine h1 r A env σ st _ hk hf (fun x σ1 hx => ?_)
  refine h2 r A env σ1 (.int x :: st) _ (cats_i hk) hx (fun y σ2 hy => ?_)
  intro H locs ls hH hn hS hl he
  exact lv_ixor A.1 A.2.1 hd (hK _ _ hy H locs ls hH hn hS hl he)
theorem r_shl {f g : EI} (h1 : FEI X own cc nL rt ini R k pc p1 f) (h2 : FEI X own cc nL rt ini R (k + 1) p1 p2 g) (hd : decode cc p2 = .ok (.ishl, 1)) : FEI X own cc nL rt ini R k pc (p2 + 1) (xshl f g) := by
  intro r A env σ st K hk hf hK
  refine h1 r A env σ st _ hk hf (fun x σ1 hx => ?_)
  refine h2 r A env σ1 (.int x :: st) _ (cats_i hk) hx (fun y σ2 hy => ?_)
  intro H locs ls hH hn hS hl he
  exact lv_ishl A.1 A.2.1 hd (hK _ _ hy H locs ls hH hn hS hl he)
theorem r_shr {f g : EI} (h1 : FEI X own cc nL rt ini R k pc p1 f) (h2 : FEI X own cc nL rt ini R (k + 1) p1 p2 g) (hd : decode cc p2 = .ok (.ishr, 1)) : FEI X own cc nL rt ini R k pc (p2 + 1) (xshr f g) := by
  intro r A env σ st K hk hf hK
  refine h1 r A env σ st _ hk hf (fun x σ1 hx => ?_)
  refine h2 r A env σ1 (.int x :: st) _ (cats_i hk) hx (fun y σ2 hy => ?_)
  intro H locs ls hH hn hS hl he
  exact lv_ishr A.1 A.2.1 hd (hK _ _ hy H locs ls hH hn hS hl he)
theorem r_div {f g : EI} (h1 : FEI X own cc nL rt ini R k pc p1 f) (h2 : FEI X own cc nL rt ini R (k + 1) p1 p2 g) (hd : decode cc p2 = .ok (.idiv, 1)) : FEI X own cc nL rt ini R k pc (p2 + 1) (xdiv f g) := by
  intro r A env σ st K hk hf hK
  refine h1 r A env σ st _ hk hf (fun x σ1 hx => ?_)
  refine h2 r A env σ1 (.int x :: st) _ (cats_i hk) hx (fun y σ2 hy => ?_)
  intro H locs ls hH hn hS hl he
  exact lv_idiv A.1 A.2.1 hd hy.1 (hK _ _ hy.2 H locs ls hH hn hS hl he)
theorem r_rem {f g : EI} (h1 : FEI X own cc nL rt ini R k pc p1 f) (h2 : FEI X own cc nL rt ini R (k + 1) p1 p2 g) (hd : decode cc p2 = .ok (.irem, 1)) : FEI X own cc nL rt ini R k pc (p2 + 1) (xrem f g) := by
  intro r A env σ st K hk hf hK
  refine h1 r A env σ st _ hk hf (fun x σ1 hx => ?_)
  refine h2 r A env σ1 (.int x :: st) _ (cats_i hk) hx (fun y σ2 hy => ?_)
  intro H locs ls hH hn hS hl he
  exact lv_irem A.1 A.2.1 hd hy.1 (hK _ _ hy.2 H locs ls hH hn hS hl he)
theorem r_addl {f g : EL} (h1 : FEL X own cc nL rt ini R k pc p1 f) (h2 : FEL X own cc nL rt ini R (k + 2) p1 p2 g) (hd : decode cc p2 = .ok (.ladd, 1)) : FEL X own cc nL rt ini R k pc (p2 + 1) (xaddl f g) := by
  intro r A env σ st K hk hf hK
  refine h1 r A env σ st _ hk hf (fun x σ1 hx => ?_)
  refine h2 r A env σ1 (.long x :: st) _ (cats_l hk) hx (fun y σ2 hy => ?_)
  intro H locs ls hH hn hS hl he
  exact lv_ladd A.1 A.2.1 hd (hK _ _ hy H locs ls hH hn hS hl he)
theorem r_subl {f g : EL} (h1 : FEL X own cc nL rt ini R k pc p1 f) (h2 : FEL X own cc nL rt ini R (k + 2) p1 p2 g) (hd : decode cc p2 = .ok (.lsub, 1)) : FEL X own cc nL rt ini R k pc (p2 + 1) (xsubl f g) := by
  intro r A env σ st K hk hf hK
  refine h1 r A env σ st _ hk hf (fun x σ1 hx => ?_)
  refine h2 r A env σ1 (.long x :: st) _ (cats_l hk) hx (fun y σ2 hy => ?_)
  intro H locs ls hH hn hS hl he
  exact lv_lsub A.1 A.2.1 hd (hK _ _ hy H locs ls hH hn hS hl he)
theorem r_mull {f g : EL} (h1 : FEL X own cc nL rt ini R k pc p1 f) (h2 : FEL X own cc nL rt ini R (k + 2) p1 p2 g) (hd : decode cc p2 = .ok (.lmul, 1)) : FEL X own cc nL rt ini R k pc (p2 + 1) (xmull f g) := by
  intro r A env σ st K hk hf hK
  refine h1 r A env σ st _ hk hf (fun x σ1 hx => ?_)
  refine h2 r A env σ1 (.long x :: st) _ (cats_l hk) hx (fun y σ2 hy => ?_)
  intro H locs ls hH hn hS hl he
  exact lv_lmul A.1 A.2.1 hd (hK _ _ hy H locs ls hH hn hS hl he)
theorem r_divl {f g : EL} (h1 : FEL X own cc nL rt ini R k pc p1 f) (h2 : FEL X own cc nL rt ini R (k + 2) p1 p2 g) (hd : decode cc p2 = .ok (.ldiv, 1)) : FEL X own cc nL rt ini R k pc (p2 + 1) (xdivl f g) := by
  intro r A env σ st K hk hf hK
  refine h1 r A env σ st _ hk hf (fun x σ1 hx => ?_)
  refine h2 r A env σ1 (.long x :: st) _ (cats_l hk) hx (fun y σ2 hy => ?_)
  intro H locs ls hH hn hS hl he
  exact lv_ldiv A.1 A.2.1 hd hy.1 (hK _ _ hy.2 H locs ls hH hn hS hl he)
theorem r_reml {f g : EL} (h1 : FEL X own cc nL rt ini R k pc p1 f) (h2 : FEL X own cc nL rt ini R (k + 2) p1 p2 g) (hd : decode cc p2 = .ok (.lrem, 1)) : FEL X own cc nL rt ini R k pc (p2 + 1) (xreml f g) := by
  intro r A env σ st K hk hf hK
  refine h1 r A env σ st _ hk hf (fun x σ1 hx => ?_)
  refine h2 r A env σ1 (.long x :: st) _ (cats_l hk) hx (fun y σ2 hy => ?_)
  intro H locs ls hH hn hS hl he
  exact lv_lrem A.1 A.2.1 hd hy.1 (hK _ _ hy.2 H locs ls hH hn hS hl he)
theorem r_neg {f : EI} (h1 : FEI X own cc nL rt ini R k pc p1 f) (hd : decode cc p1 = .ok (.ineg, 1)) : FEI X own cc nL rt ini R k pc (p1 + 1) (xneg f) := by
  intro r A env σ st K hk hf hK
  refine h1 r A env σ st _ hk hf (fun x σ1 hx => ?_)
  intro H locs ls hH hn hS hl he
  exact lv_ineg A.1 A.2.1 hd (hK _ _ hx H locs ls hH hn hS hl he)
theorem r_negl {f : EL} (h1 : FEL X own cc nL rt ini R k pc p1 f) (hd : decode cc p1 = .ok (.lneg, 1)) : FEL X own cc nL rt ini R k pc (p1 + 1) (xnegl f) := by
  intro r A env σ st K hk hf hK
  refine h1 r A env σ st _ hk hf (fun x σ1 hx => ?_)
  intro H locs ls hH hn hS hl he
  exact lv_lneg A.1 A.2.1 hd (hK _ _ hx H locs ls hH hn hS hl he)
theorem r_i2l {f : EI} (h1 : FEI X own cc nL rt ini R k pc p1 f) (hd : decode cc p1 = .ok (.i2l, 1)) : FEL X own cc nL rt ini R k pc (p1 + 1) (xi2l f) := by
  intro r A env σ st K hk hf hK
  refine h1 r A env σ st _ hk hf (fun x σ1 hx => ?_)
  intro H locs ls hH hn hS hl he
  exact lv_i2l A.1 A.2.1 hd rfl (hK _ _ hx H locs ls hH hn hS hl he)
theorem r_i2c {f : EI} (h1 : FEI X own cc nL rt ini R k pc p1 f) (hd : decode cc p1 = .ok (.i2c, 1)) : FEI X own cc nL rt ini R k pc (p1 + 1) (xi2c f) := by
  intro r A env σ st K hk hf hK
  refine h1 r A env σ st _ hk hf (fun x σ1 hx => ?_)
  intro H locs ls hH hn hS hl he
  exact lv_i2c A.1 A.2.1 hd rfl (hK _ _ hx H locs ls hH hn hS hl he)
theorem c_not {c : EC} (h : FEC X own cc nL rt ini R k pc pt pf c) : FEC X own cc nL rt ini R k pc pf pt (cNot c) := fun r A env σ st Kt Kf hk hf h1 h2 => h r A env σ st Kf Kt hk hf h2 h1
theorem c_and {a b : EC} (h1 : FEC X own cc nL rt ini R k pc p1 pf a) (h2 : FEC X own cc nL rt ini R k p1 pt pf b) : FEC X own cc nL rt ini R k pc pt pf (cAnd a b) := fun r A env σ st Kt Kf hk hf g1 g2 => h1 r A env σ st _ Kf hk hf (fun σ1 z => h2 r A env σ1 st Kt Kf hk z g1 g2) g2
theorem c_or {a b : EC} (h1 : FEC X own cc nL rt ini R k pc pt p1 a) (h2 : FEC X own cc nL rt ini R k p1 pt pf b) : FEC X own cc nL rt ini R k pc pt pf (cOr a b) := fun r A env σ st Kt Kf hk hf g1 g2 => h1 r A env σ st Kt _ hk hf g1 (fun σ1 z => h2 r A env σ1 st Kt Kf hk z g1 g2)
theorem c_eq_t {f g : EI} {off : Int} {tgt : Nat} (h1 : FEI X own cc nL rt ini R k pc p1 f) (h2 : FEI X own cc nL rt ini R (k + 1) p1 p2 g) (hd : decode cc p2 = .ok (.if_icmp .eq off, 3)) (ht : (p2 : Int) + off = (tgt : Int)) : FEC X own cc nL rt ini R k pc tgt (p2 + 3) (cEq f g) := by
  intro r A env σ st Kt Kf hk hf g1 g2
  refine h1 r A env σ st _ hk hf (fun x σ1 hx => ?_)
  refine h2 r A env σ1 (.int x :: st) _ (cats_i hk) hx (fun y σ2 hy => ?_)
  intro H locs ls hH hn hS hl he
  exact lv_icmp_eq A.1 A.2.1 hd ht (fun c => g1 _ (hy.1 c) H locs ls hH hn hS hl he) (fun c => g2 _ (hy.2 c) H locs ls hH hn hS hl he)
theorem c_eq_f {f g : EI} {off : Int} {tgt : Nat} (h1 : FEI X own cc nL rt ini R k pc p1 f) (h2 : FEI X own cc nL rt ini R (k + 1) p1 p2 g) (hd : decode cc p2 = .ok (.if_icmp .ne off, 3)) (ht : (p2 : Int) + off = (tgt : Int)) : FEC X own cc nL rt ini R k pc (p2 + 3) tgt (cEq f g) := by
  intro r A env σ st Kt Kf hk hf g1 g2
  refine h1 r A env σ st _ hk hf (fun x σ1 hx => ?_)
  refine h2 r A env σ1 (.int x :: st) _ (cats_i hk) hx (fun y σ2 hy => ?_)
  intro H locs ls hH hn hS hl he
  exact lv_icmp_ne A.1 A.2.1 hd ht (fun c => g2 _ (hy.2 c) H locs ls hH hn hS hl he) (fun c => g1 _ (hy.1 c) H locs ls hH hn hS hl he)
theorem c_lt_t {f g : EI} {off : Int} {tgt : Nat} (h1 : FEI X own cc nL rt ini R k pc p1 f) (h2 : FEI X own cc nL rt ini R (k + 1) p1 p2 g) (hd : decode cc p2 = .ok (.if_icmp .lt off, 3)) (ht : (p2 : Int) + off = (tgt : Int)) : FEC X own cc nL rt ini R k pc tgt (p2 + 3) (cLt f g) := by
  intro r A env σ st Kt Kf hk hf g1 g2
  refine h1 r A env σ st _ hk hf (fun x σ1 hx => ?_)
  refine h2 r A env σ1 (.int x :: st) _ (cats_i hk) hx (fun y σ2 hy => ?_)
  intro H locs ls hH hn hS hl he
  exact lv_icmp_lt A.1 A.2.1 hd ht (fun c => g1 _ (hy.1 c) H locs ls hH hn hS hl he) (fun c => g2 _ (hy.2 c) H locs ls hH hn hS hl he)
theorem c_lt_f {f g : EI} {off : Int} {tgt : Nat} (h1 : FEI X own cc nL rt ini R k pc p1 f) (h2 : FEI X own cc nL rt ini R (k + 1) p1 p2 g) (hd : decode cc p2 = .ok (.if_icmp .ge off, 3)) (ht : (p2 : Int) + off = (tgt : Int)) : FEC X own cc nL rt ini R k pc (p2 + 3) tgt (cLt f g) := by
  intro r A env σ st Kt Kf hk hf g1 g2
  refine h1 r A env σ st _ hk hf (fun x σ1 hx => ?_)
  refine h2 r A env σ1 (.int x :: st) _ (cats_i hk) hx (fun y σ2 hy => ?_)
  intro H locs ls hH hn hS hl he
  exact lv_icmp_ge A.1 A.2.1 hd ht (fun c => g2 _ (hy.2 (Int32.not_lt.mpr c)) H locs ls hH hn hS hl he) (fun c => g1 _ (hy.1 (Int32.not_le.mp c)) H locs ls hH hn hS hl he)
theorem c_gt_t {f g : EI} {off : Int} {tgt : Nat} (h1 : FEI X own cc nL rt ini R k pc p1 f) (h2 : FEI X own cc nL rt ini R (k + 1) p1 p2 g) (hd : decode cc p2 = .ok (.if_icmp .gt off, 3)) (ht : (p2 : Int) + off = (tgt : Int)) : FEC X own cc nL rt ini R k pc tgt (p2 + 3) (cGt f g) := by
  intro r A env σ st Kt Kf hk hf g1 g2
  refine h1 r A env σ st _ hk hf (fun x σ1 hx => ?_)
  refine h2 r A env σ1 (.int x :: st) _ (cats_i hk) hx (fun y σ2 hy => ?_)
  intro H locs ls hH hn hS hl he
  exact lv_icmp_gt A.1 A.2.1 hd ht (fun c => g1 _ (hy.1 c) H locs ls hH hn hS hl he) (fun c => g2 _ (hy.2 c) H locs ls hH hn hS hl he)
theorem c_gt_f {f g : EI} {off : Int} {tgt : Nat} (h1 : FEI X own cc nL rt ini R k pc p1 f) (h2 : FEI X own cc nL rt ini R (k + 1) p1 p2 g) (hd : decode cc p2 = .ok (.if_icmp .le off, 3)) (ht : (p2 : Int) + off = (tgt : Int)) : FEC X own cc nL rt ini R k pc (p2 + 3) tgt (cGt f g) := by
  intro r A env σ st Kt Kf hk hf g1 g2
  refine h1 r A env σ st _ hk hf (fun x σ1 hx => ?_)
  refine h2 r A env σ1 (.int x :: st) _ (cats_i hk) hx (fun y σ2 hy => ?_)
  intro H locs ls hH hn hS hl he
  exact lv_icmp_le A.1 A.2.1 hd ht (fun c => g2 _ (hy.2 (Int32.not_lt.mpr c)) H locs ls hH hn hS hl he) (fun c => g1 _ (hy.1 (Int32.not_le.mp c)) H locs ls hH hn hS hl he)
theorem c_eq0_t {f : EI} {off : Int} {tgt : Nat} (h1 : FEI X own cc nL rt ini R k pc p1 f) (hd : decode cc p1 = .ok (.ifCond .eq off, 3)) (ht : (p1 : Int) + off = (tgt : Int)) : FEC X own cc nL rt ini R k pc tgt (p1 + 3) (cEq0 f) := by
  intro r A env σ st Kt Kf hk hf g1 g2
  refine h1 r A env σ st _ hk hf (fun x σ1 hy => ?_)
  intro H locs ls hH hn hS hl he
  exact lv_if_eq A.1 A.2.1 hd ht (fun c => g1 _ (hy.1 c) H locs ls hH hn hS hl he) (fun c => g2 _ (hy.2 c) H locs ls hH hn hS hl he)
theorem c_eq0_f {f : EI} {off : Int} {tgt : Nat} (h1 : FEI X own cc nL rt ini R k pc p1 f) (hd : decode cc p1 = .ok (.ifCond .ne off, 3)) (ht : (p1 : Int) + off = (tgt : Int)) : FEC X own cc nL rt ini R k pc (p1 + 3) tgt (cEq0 f) := by
  intro r A env σ st Kt Kf hk hf g1 g2
  refine h1 r A env σ st _ hk hf (fun x σ1 hy => ?_)
  intro H locs ls hH hn hS hl he
  exact lv_if_ne A.1 A.2.1 hd ht (fun c => g2 _ (hy.2 c) H locs ls hH hn hS hl he) (fun c => g1 _ (hy.1 c) H locs ls hH hn hS hl he)
theorem c_lt0_t {f : EI} {off : Int} {tgt : Nat} (h1 : FEI X own cc nL rt ini R k pc p1 f) (hd : decode cc p1 = .ok (.ifCond .lt off, 3)) (ht : (p1 : Int) + off = (tgt : Int)) : FEC X own cc nL rt ini R k pc tgt (p1 + 3) (cLt0 f) := by
  intro r A env σ st Kt Kf hk hf g1 g2
  refine h1 r A env σ st _ hk hf (fun x σ1 hy => ?_)
  intro H locs ls hH hn hS hl he
  exact lv_if_lt A.1 A.2.1 hd ht (fun c => g1 _ (hy.1 c) H locs ls hH hn hS hl he) (fun c => g2 _ (hy.2 c) H locs ls hH hn hS hl he)
theorem c_lt0_f {f : EI} {off : Int} {tgt : Nat} (h1 : FEI X own cc nL rt ini R k pc p1 f) (hd : decode cc p1 = .ok (.ifCond .ge off, 3)) (ht : (p1 : Int) + off = (tgt : Int)) : FEC X own cc nL rt ini R k pc (p1 + 3) tgt (cLt0 f) := by
  intro r A env σ st Kt Kf hk hf g1 g2
  refine h1 r A env σ st _ hk hf (fun x σ1 hy => ?_)
  intro H locs ls hH hn hS hl he
  exact lv_if_ge A.1 A.2.1 hd ht (fun c => g2 _ (hy.2 (Int32.not_lt.mpr c)) H locs ls hH hn hS hl he) (fun c => g1 _ (hy.1 (Int32.not_le.mp c)) H locs ls hH hn hS hl he)
theorem c_gt0_t {f : EI} {off : Int} {tgt : Nat} (h1 : FEI X own cc nL rt ini R k pc p1 f) (hd : decode cc p1 = .ok (.ifCond .gt off, 3)) (ht : (p1 : Int) + off = (tgt : Int)) : FEC X own cc nL rt ini R k pc tgt (p1 + 3) (cGt0 f) := by
  intro r A env σ st Kt Kf hk hf g1 g2
  refine h1 r A env σ st _ hk hf (fun x σ1 hy => ?_)
  intro H locs ls hH hn hS hl he
  exact lv_if_gt A.1 A.2.1 hd ht (fun c => g1 _ (hy.1 c) H locs ls hH hn hS hl he) (fun c => g2 _ (hy.2 c) H locs ls hH hn hS hl he)
theorem c_gt0_f {f : EI} {off : Int} {tgt : Nat} (h1 : FEI X own cc nL rt ini R k pc p1 f) (hd : decode cc p1 = .ok (.ifCond .le off, 3)) (ht : (p1 : Int) + off = (tgt : Int)) : FEC X own cc nL rt ini R k pc (p1 + 3) tgt (cGt0 f) := by
  intro r A env σ st Kt Kf hk hf g1 g2
  refine h1 r A env σ st _ hk hf (fun x σ1 hy => ?_)
  intro H locs ls hH hn hS hl he
  exact lv_if_le A.1 A.2.1 hd ht (fun c => g2 _ (hy.2 (Int32.not_lt.mpr c)) H locs ls hH hn hS hl he) (fun c => g1 _ (hy.1 (Int32.not_le.mp c)) H locs ls hH hn hS hl he)
theorem lg_eq (x y : Int64) : lg_cmp x y = 0 ↔ x = y := by
  unfold lg_cmp
  by_cases h1 : x > y
  · rw [if_pos h1]
    constructor
    · intro h; exact absurd h (by decide)
    · intro h; subst h; exact absurd h1 (Int64.lt_irrefl)
  · rw [if_neg h1]
    by_cases h2 : x = y
    · rw [if_pos h2]; exact ⟨fun _ => h2, fun _ => rfl⟩
    · rw [if_neg h2]; exact ⟨fun h => absurd h (by decide), fun h => absurd h h2⟩
theorem lg_lt (x y : Int64) : lg_cmp x y < 0 ↔ x < y := by
  rw [← Int32.not_le, ← Int64.not_le]
  exact not_congr (lg_cmp_ge x y)
theorem lg_gt (x y : Int64) : 0 < lg_cmp x y ↔ y < x := by
  unfold lg_cmp
  by_cases h1 : x > y
  · rw [if_pos h1]; exact ⟨fun _ => h1, fun _ => by decide⟩
  · rw [if_neg h1]
    refine ⟨fun h => ?_, fun h => absurd h h1⟩
    by_cases h2 : x = y
    · rw [if_pos h2] at h; exact absurd h (by decide)
    · rw [if_neg h2] at h; exact absurd h (by decide)
theorem c_eql_t {f g : EL} {off : Int} {tgt : Nat} (h1 : FEL X own cc nL rt ini R k pc p1 f) (h2 : FEL X own cc nL rt ini R (k + 2) p1 p2 g) (hd0 : decode cc p2 = .ok (.lcmp, 1)) (hd : decode cc (p2 + 1) = .ok (.ifCond .eq off, 3)) (ht : ((p2 + 1 : Nat) : Int) + off = (tgt : Int)) : FEC X own cc nL rt ini R k pc tgt (p2 + 1 + 3) (cEqL f g) := by
  intro r A env σ st Kt Kf hk hf g1 g2
  refine h1 r A env σ st _ hk hf (fun x σ1 hx => ?_)
  refine h2 r A env σ1 (.long x :: st) _ (cats_l hk) hx (fun y σ2 hy => ?_)
  intro H locs ls hH hn hS hl he
  refine W.lcmp A.1 A.2.1 hd0 ?_
  exact lv_if_eq A.1 A.2.1 hd ht (fun c => g1 _ (hy.1 ((lg_eq x y).mp c)) H locs ls hH hn hS hl he) (fun c => g2 _ (hy.2 (fun h => c ((lg_eq x y).mpr h))) H locs ls hH hn hS hl he)
theorem c_eql_f {f g : EL} {off : Int} {tgt : Nat} (h1 : FEL X own cc nL rt ini R k pc p1 f) (h2 : FEL X own cc nL rt ini R (k + 2) p1 p2 g) (hd0 : decode cc p2 = .ok (.lcmp, 1)) (hd : decode cc (p2 + 1) = .ok (.ifCond .ne off, 3)) (ht : ((p2 + 1 : Nat) : Int) + off = (tgt : Int)) : FEC X own cc nL rt ini R k pc (p2 + 1 + 3) tgt (cEqL f g) := by
  intro r A env σ st Kt Kf hk hf g1 g2
  refine h1 r A env σ st _ hk hf (fun x σ1 hx => ?_)
  refine h2 r A env σ1 (.long x :: st) _ (cats_l hk) hx (fun y σ2 hy => ?_)
  intro H locs ls hH hn hS hl he
  refine W.lcmp A.1 A.2.1 hd0 ?_
  exact lv_if_ne A.1 A.2.1 hd ht (fun c => g2 _ (hy.2 (fun h => c ((lg_eq x y).mpr h))) H locs ls hH hn hS hl he) (fun c => g1 _ (hy.1 ((lg_eq x y).mp c)) H locs ls hH hn hS hl he)
theorem c_ltl_f {f g : EL} {off : Int} {tgt : Nat} (h1 : FEL X own cc nL rt ini R k pc p1 f) (h2 : FEL X own cc nL rt ini R (k + 2) p1 p2 g) (hd0 : decode cc p2 = .ok (.lcmp, 1)) (hd : decode cc (p2 + 1) = .ok (.ifCond .ge off, 3)) (ht : ((p2 + 1 : Nat) : Int) + off = (tgt : Int)) : FEC X own cc nL rt ini R k pc (p2 + 1 + 3) tgt (cLtL f g) := by
  intro r A env σ st Kt Kf hk hf g1 g2
  refine h1 r A env σ st _ hk hf (fun x σ1 hx => ?_)
  refine h2 r A env σ1 (.long x :: st) _ (cats_l hk) hx (fun y σ2 hy => ?_)
  intro H locs ls hH hn hS hl he
  refine W.lcmp A.1 A.2.1 hd0 ?_
  exact lv_if_ge A.1 A.2.1 hd ht (fun c => g2 _ (hy.2 (Int64.not_lt.mpr ((lg_cmp_ge x y).mp c))) H locs ls hH hn hS hl he) (fun c => g1 _ (hy.1 (Int64.not_le.mp (fun h => c ((lg_cmp_ge x y).mpr h)))) H locs ls hH hn hS hl he)
theorem c_gtl_f {f g : EL} {off : Int} {tgt : Nat} (h1 : FEL X own cc nL rt ini R k pc p1 f) (h2 : FEL X own cc nL rt ini R (k + 2) p1 p2 g) (hd0 : decode cc p2 = .ok (.lcmp, 1)) (hd : decode cc (p2 + 1) = .ok (.ifCond .le off, 3)) (ht : ((p2 + 1 : Nat) : Int) + off = (tgt : Int)) : FEC X own cc nL rt ini R k pc (p2 + 1 + 3) tgt (cGtL f g) := by
  intro r A env σ st Kt Kf hk hf g1 g2
  refine h1 r A env σ st _ hk hf (fun x σ1 hx => ?_)
  refine h2 r A env σ1 (.long x :: st) _ (cats_l hk) hx (fun y σ2 hy => ?_)
  intro H locs ls hH hn hS hl he
  refine W.lcmp A.1 A.2.1 hd0 ?_
  exact lv_if_le A.1 A.2.1 hd ht (fun c => g2 _ (hy.2 (fun h => absurd ((lg_gt x y).mpr h) (Int32.not_lt.mpr c))) H locs ls hH hn hS hl he) (fun c => g1 _ (hy.1 ((lg_gt x y).mp (Int32.not_le.mp c))) H locs ls hH hn hS hl he)
theorem r_ofC {c : EC} {off : Int} (h : FEC X own cc nL rt ini R k pc pt pf c) (d1 : decode cc pt = .ok (.iconst 1, 1)) (d2 : decode cc (pt + 1) = .ok (.goto off, 3)) (ht : ((pt + 1 : Nat) : Int) + off = ((pf + 1 : Nat) : Int)) (d3 : decode cc pf = .ok (.iconst 0, 1)) : FEI X own cc nL rt ini R k pc (pf + 1) (xofC c) := by
  intro r A env σ st K hk hf hK
  refine h r A env σ st _ _ hk hf (fun σ1 z => ?_) (fun σ1 z => ?_)
  · intro H locs ls hH hn hS hl he
    refine lv_iconst (v := 1) A.1 A.2.1 d1 (by decide) ?_
    exact lv_goto A.1 A.2.1 d2 ht (hK _ _ z H locs ls hH hn hS hl he)
  · intro H locs ls hH hn hS hl he
    exact lv_iconst (v := 0) A.1 A.2.1 d3 (by decide) (hK _ _ z H locs ls hH hn hS hl he)
theorem r_ite {c : EC} {f g : EI} {off : Int} (h : FEC X own cc nL rt ini R k pc pt pf c) (h1 : FEI X own cc nL rt ini R k pt p1 f) (d2 : decode cc p1 = .ok (.goto off, 3)) (ht : (p1 : Int) + off = (p2 : Int)) (h2 : FEI X own cc nL rt ini R k pf p2 g) : FEI X own cc nL rt ini R k pc p2 (xite c f g) := by
  intro r A env σ st K hk hf hK
  refine h r A env σ st _ _ hk hf (fun σ1 z => ?_) (fun σ1 z => ?_)
  · refine h1 r A env σ1 st _ hk z (fun x σ2 hx => ?_)
    intro H locs ls hH hn hS hl he
    exact lv_goto A.1 A.2.1 d2 ht (hK _ _ hx H locs ls hH hn hS hl he)
  · exact h2 r A env σ1 st _ hk z hK
theorem r_itel {c : EC} {f g : EL} {off : Int} (h : FEC X own cc nL rt ini R k pc pt pf c) (h1 : FEL X own cc nL rt ini R k pt p1 f) (d2 : decode cc p1 = .ok (.goto off, 3)) (ht : (p1 : Int) + off = (p2 : Int)) (h2 : FEL X own cc nL rt ini R k pf p2 g) : FEL X own cc nL rt ini R k pc p2 (xitel c f g) := by
  intro r A env σ st K hk hf hK
  refine h r A env σ st _ _ hk hf (fun σ1 z => ?_) (fun σ1 z => ?_)
  · refine h1 r A env σ1 st _ hk z (fun x σ2 hx => ?_)
    intro H locs ls hH hn hS hl he
    exact lv_goto A.1 A.2.1 d2 ht (hK _ _ hx H locs ls hH hn hS hl he)
  · exact h2 r A env σ1 st _ hk z hK
theorem v_I {f : EI} (h : FEI X own cc nL rt ini R k pc p1 f) : FEV X own cc nL rt ini R k pc p1 1 (vI f) := fun r A env σ st _ hk hf hK => h r A env σ st _ hk hf (fun _ _ z => hK _ _ rfl z)
theorem v_L {f : EL} (h : FEL X own cc nL rt ini R k pc p1 f) : FEV X own cc nL rt ini R k pc p1 2 (vL f) := fun r A env σ st _ hk hf hK => h r A env σ st _ hk hf (fun _ _ z => hK _ _ rfl z)
theorem v_R {f : ER} (h : FER X own cc nL rt ini R k pc p1 f) : FEV X own cc nL rt ini R k pc p1 1 (vR f) := fun r A env σ st _ hk hf hK => h r A env σ st _ hk hf (fun _ _ z => hK _ _ rfl z)
theorem a_N : FEA X own cc nL rt ini R k pc pc 0 aN := fun r A env σ st _ hk hf hK => hK [] _ rfl hf
theorem a_C {f : EV} {a : EA} {w n : Nat} (h1 : FEV X own cc nL rt ini R k pc p1 w f) (h2 : FEA X own cc nL rt ini R (k + w) p1 p2 n a) : FEA X own cc nL rt ini R k pc p2 (n + 1) (aC f a) := by
  intro r A env σ st K hk hf hK
  refine h1 r A env σ st _ hk hf (fun v σ1 hw hv => ?_)
  refine h2 r A env σ1 (v :: st) _ (by rw [cats_cons, hw]; omega) hv (fun vs σ2 hl hvs => ?_)
  have e := hK (v :: vs) σ2 (by simp [hl]) hvs
  rwa [List.reverse_cons, List.append_assoc] at e
theorem s_skip : FS X own cc nL rt ini R pc pc pb pq sSkip := fun r A env σ Kn Kb Kc Kr hf h1 h2 h3 h4 => h1 _ _ hf
theorem s_seq {f g : ST} (h1 : FS X own cc nL rt ini R pc p1 pb pq f) (h2 : FS X own cc nL rt ini R p1 p2 pb pq g) : FS X own cc nL rt ini R pc p2 pb pq (sSeq f g) := fun r A env σ Kn Kb Kc Kr hf g1 g2 g3 g4 => h1 r A env σ _ Kb Kc Kr hf (fun e1 σ1 z => h2 r A e1 σ1 Kn Kb Kc Kr z g1 g2 g3 g4) g2 g3 g4
theorem s_brk {off : Int} (hd : decode cc pc = .ok (.goto off, 3)) (ht : (pc : Int) + off = (pb : Int)) : FS X own cc nL rt ini R pc p1 pb pq sBrk := fun r A env σ Kn Kb Kc Kr hf g1 g2 g3 g4 H locs ls hH hn hS hl he => lv_goto A.1 A.2.1 hd ht (g2 _ _ hf H locs ls hH hn hS hl he)
theorem s_cnt {off : Int} (hd : decode cc pc = .ok (.goto off, 3)) (ht : (pc : Int) + off = (pq : Int)) : FS X own cc nL rt ini R pc p1 pb pq sCnt := fun r A env σ Kn Kb Kc Kr hf g1 g2 g3 g4 H locs ls hH hn hS hl he => lv_goto A.1 A.2.1 hd ht (g3 _ _ hf H locs ls hH hn hS hl he)
/-- behind a piece that ends by a jump to p2 -/
theorem s_goto {f : ST} {off : Int} (h : FS X own cc nL rt ini R pc p1 pb pq f) (hd : decode cc p1 = .ok (.goto off, 3)) (ht : (p1 : Int) + off = (p2 : Int)) : FS X own cc nL rt ini R pc p2 pb pq f := fun r A env σ Kn Kb Kc Kr hf g1 g2 g3 g4 => h r A env σ Kn Kb Kc Kr hf (fun e1 σ1 z H locs ls hH hn hS hl he => lv_goto A.1 A.2.1 hd ht (g1 _ _ z H locs ls hH hn hS hl he)) g2 g3 g4
theorem s_if {c : EC} {f g : ST} (h : FEC X own cc nL rt ini R 0 pc pt pf c) (h1 : FS X own cc nL rt ini R pt p2 pb pq f) (h2 : FS X own cc nL rt ini R pf p2 pb pq g) : FS X own cc nL rt ini R pc p2 pb pq (sIf c f g) := fun r A env σ Kn Kb Kc Kr hf g1 g2 g3 g4 => h r A env σ [] _ _ (Nat.le_refl 0) hf (fun σ1 z => h1 r A env σ1 Kn Kb Kc Kr z g1 g2 g3 g4) (fun σ1 z => h2 r A env σ1 Kn Kb Kc Kr z g1 g2 g3 g4)
theorem s_for {c : EC} {b u : ST} {off : Int} {x1 x2 : Nat} (h : FEC X own cc nL rt ini R 0 pc pt pe c) (h1 : FS X own cc nL rt ini R pt p1 pe p1 b) (h2 : FS X own cc nL rt ini R p1 p2 x1 x2 u) (hd : decode cc p2 = .ok (.goto off, 3)) (ht : (p2 : Int) + off = (pc : Int)) : FS X own cc nL rt ini R pc pe pb pq (sFor c b u) := by
  intro r A env σ Kn Kb Kc Kr hf g1 g2 g3 g4
  obtain ⟨n, hf⟩ := hf
  induction n generalizing env σ with
  | zero => exact hf.elim
  | succ n ih =>
    refine h r A env σ [] _ _ (Nat.le_refl 0) hf (fun σ1 z => ?_) (fun σ1 z => g1 _ _ z)
    have up : ∀ (e2 : Lc) (σ2 : AH), u e2 σ2 (lp c b u Kn Kr n) (fun _ _ => False) (fun _ _ => False) (fun _ _ => False) → WA X nL R r p1 e2 [] σ2 := fun e2 σ2 z2 =>
      h2 r A e2 σ2 _ _ _ _ z2 (fun e3 σ3 z3 H locs ls hH hn hS hl he => lv_goto A.1 A.2.1 hd ht (ih e3 σ3 z3 H locs ls hH hn hS hl he)) (fun _ _ q => q.elim) (fun _ _ q => q.elim) (fun _ _ q => q.elim)
    exact h1 r A env σ1 _ _ _ _ z up g1 up g4
theorem s_I {f : EI} {i : Nat} (h1 : FEI X own cc nL rt ini R 0 pc p1 f) (hi : i < nL) (hd : decode cc p1 = .ok (.istore i, 2)) : FS X own cc nL rt ini R pc (p1 + 2) pb pq (sI i f) := by
  intro r A env σ Kn Kb Kc Kr hf g1 g2 g3 g4
  refine h1 r A env σ [] _ (Nat.le_refl 0) hf (fun x σ1 z => ?_)
  intro H locs ls hH hn hS hl he
  exact lv_istore A.1 A.2.1 hd hl hi rfl (fun ls' hl' => g1 _ _ z H locs ls' hH hn hS (lv_eset hl') ⟨by rw [eset_len]; exact he.1, he.2⟩)
theorem s_I_n {f : EI} {i : Nat} {q : Fin 4} (h1 : FEI X own cc nL rt ini R 0 pc p1 f) (hi : i < nL) (hd : decode cc p1 = .ok (.istore_n q, 1)) (hq : (q : Nat) = i) : FS X own cc nL rt ini R pc (p1 + 1) pb pq (sI i f) := by
  intro r A env σ Kn Kb Kc Kr hf g1 g2 g3 g4
  refine h1 r A env σ [] _ (Nat.le_refl 0) hf (fun x σ1 z => ?_)
  intro H locs ls hH hn hS hl he
  exact lv_istore_n A.1 A.2.1 hd hq hl hi rfl (fun ls' hl' => g1 _ _ z H locs ls' hH hn hS (lv_eset hl') ⟨by rw [eset_len]; exact he.1, he.2⟩)
theorem s_R {f : ER} {i : Nat} (h1 : FER X own cc nL rt ini R 0 pc p1 f) (hi : i < nL) (hd : decode cc p1 = .ok (.astore i, 2)) : FS X own cc nL rt ini R pc (p1 + 2) pb pq (sR i f) := by
  intro r A env σ Kn Kb Kc Kr hf g1 g2 g3 g4
  refine h1 r A env σ [] _ (Nat.le_refl 0) hf (fun x σ1 z => ?_)
  intro H locs ls hH hn hS hl he
  exact lv_astore A.1 A.2.1 hd hl hi rfl (fun ls' hl' => g1 _ _ z H locs ls' hH hn hS (lv_eset hl') ⟨by rw [eset_len]; exact he.1, he.2⟩)
theorem s_R_n {f : ER} {i : Nat} {q : Fin 4} (h1 : FER X own cc nL rt ini R 0 pc p1 f) (hi : i < nL) (hd : decode cc p1 = .ok (.astore_n q, 1)) (hq : (q : Nat) = i) : FS X own cc nL rt ini R pc (p1 + 1) pb pq (sR i f) := by
  intro r A env σ Kn Kb Kc Kr hf g1 g2 g3 g4
  refine h1 r A env σ [] _ (Nat.le_refl 0) hf (fun x σ1 z => ?_)
  intro H locs ls hH hn hS hl he
  exact lv_astore_n A.1 A.2.1 hd hq hl hi rfl (fun ls' hl' => g1 _ _ z H locs ls' hH hn hS (lv_eset hl') ⟨by rw [eset_len]; exact he.1, he.2⟩)
theorem s_L {f : EL} {i : Nat} (h1 : FEL X own cc nL rt ini R 0 pc p1 f) (hi : i + 1 < nL) (hd : decode cc p1 = .ok (.lstore i, 2)) : FS X own cc nL rt ini R pc (p1 + 2) pb pq (sL i f) := by
  intro r A env σ Kn Kb Kc Kr hf g1 g2 g3 g4
  refine h1 r A env σ [] _ (Nat.le_refl 0) hf (fun x σ1 z => ?_)
  intro H locs ls hH hn hS hl he
  exact lv_lstore A.1 A.2.1 hd hl hi rfl (fun ls' hl' => g1 _ _ z H locs ls' hH hn hS (lv_eset2 hl') ⟨by rw [eset2_len]; exact he.1, he.2⟩)
theorem s_L_n {f : EL} {i : Nat} {q : Fin 4} (h1 : FEL X own cc nL rt ini R 0 pc p1 f) (hi : i + 1 < nL) (hd : decode cc p1 = .ok (.lstore_n q, 1)) (hq : (q : Nat) = i) : FS X own cc nL rt ini R pc (p1 + 1) pb pq (sL i f) := by
  intro r A env σ Kn Kb Kc Kr hf g1 g2 g3 g4
  refine h1 r A env σ [] _ (Nat.le_refl 0) hf (fun x σ1 z => ?_)
  intro H locs ls hH hn hS hl he
  exact lv_lstore_n A.1 A.2.1 hd hq hl hi rfl (fun ls' hl' => g1 _ _ z H locs ls' hH hn hS (lv_eset2 hl') ⟨by rw [eset2_len]; exact he.1, he.2⟩)
theorem s_inc {i : Nat} {n : Int} {v : Int32} (hi : i < nL) (hd : decode cc pc = .ok (.iinc i n, 3)) (hv : Int32.ofInt n = v) : FS X own cc nL rt ini R pc (pc + 3) pb pq (sInc i v) := by
  intro r A env σ Kn Kb Kc Kr hf g1 g2 g3 g4 H locs ls hH hn hS hl he
  unfold sInc at hf
  split at hf
  · rename_i x hx
    obtain ⟨kq, hkq⟩ := List.getElem?_of_mem ((prs_mem env 0 i (.int x)).mpr ⟨Nat.zero_le _, hx⟩)
    exact lv_iinc (x := x) (v := x + v) A.1 A.2.1 hd hl hkq (by rw [hv]) hi rfl (fun ls' hl' => g1 _ _ hf H locs ls' hH hn hS (lv_eset hl') ⟨by rw [eset_len]; exact he.1, he.2⟩)
  · exact hf.elim
theorem s_retI {f : EI} (h1 : FEI X own cc nL rt ini R 0 pc p1 f) (hr : rt = some .int) (hd : decode cc p1 = .ok (.ireturn, 1)) : FS X own cc nL rt ini R pc p2 pb pq (sRetI f) := by
  intro r A env σ Kn Kb Kc Kr hf g1 g2 g3 g4
  refine h1 r A env σ [] _ (Nat.le_refl 0) hf (fun x σ1 z => ?_)
  intro H locs ls hH hn hS hl he
  exact (g4 _ _ z H locs hH hn hS he.2 p1 ls).2.1 x rfl ⟨_, hr, rfl⟩ hd
theorem s_retZ {f : EI} (h1 : FEI X own cc nL rt ini R 0 pc p1 f) (hr : rt = some .boolean) (hd : decode cc p1 = .ok (.ireturn, 1)) : FS X own cc nL rt ini R pc p2 pb pq (sRetZ f) := by
  intro r A env σ Kn Kb Kc Kr hf g1 g2 g3 g4
  refine h1 r A env σ [] _ (Nat.le_refl 0) hf (fun x σ1 z => ?_)
  intro H locs ls hH hn hS hl he
  refine (g4 _ _ z.2 H locs hH hn hS he.2 p1 ls).2.1 x rfl ⟨_, hr, ?_⟩ hd
  rcases z.1 with rfl | rfl <;> rfl
theorem s_retL {f : EL} (h1 : FEL X own cc nL rt ini R 0 pc p1 f) (hr : rt = some .long) (hd : decode cc p1 = .ok (.lreturn, 1)) : FS X own cc nL rt ini R pc p2 pb pq (sRetL f) := by
  intro r A env σ Kn Kb Kc Kr hf g1 g2 g3 g4
  refine h1 r A env σ [] _ (Nat.le_refl 0) hf (fun x σ1 z => ?_)
  intro H locs ls hH hn hS hl he
  exact (g4 _ _ z H locs hH hn hS he.2 p1 ls).2.2.1 x rfl hr hd
theorem s_retR {f : ER} {nm : String} (h1 : FER X own cc nL rt ini R 0 pc p1 f) (hr : rt = some (.object nm)) (hd : decode cc p1 = .ok (.areturn, 1)) : FS X own cc nL rt ini R pc p2 pb pq (sRetR f) := by
  intro r A env σ Kn Kb Kc Kr hf g1 g2 g3 g4
  refine h1 r A env σ [] _ (Nat.le_refl 0) hf (fun x σ1 z => ?_)
  intro H locs ls hH hn hS hl he
  exact (g4 _ _ z H locs hH hn hS he.2 p1 ls).2.2.2 x rfl ⟨_, hr⟩ hd
theorem s_ret (hr : rt = none) (hd : decode cc pc = .ok (.return_, 1)) : FS X own cc nL rt ini R pc p2 pb pq sRet := by
  intro r A env σ Kn Kb Kc Kr hf g1 g2 g3 g4
  intro H locs ls hH hn hS hl he
  exact (g4 _ _ hf H locs hH hn hS he.2 pc ls).1 rfl hr hd
end ROWS
