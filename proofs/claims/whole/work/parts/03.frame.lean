/-! A small logic of programs over the machine: what a piece of javac's code does is said by a transformer (of the named values of the locals and of a heap as a function from addresses to cells), and each row here says: if the pieces do what their transformers say, so does the whole. -/
abbrev Lc : Type := List (Option Value)
abbrev HM : Type := Nat → Option va_E
abbrev AH : Type := HM × (Nat × (Nat × Nat))
abbrev WX : Type := Launch × va_G × (ClassId × ClassId × ClassId) × Nat × (Nat → Nat) × (Nat → Nat) × (Nat × Nat × (Nat → Int32))
abbrev RX : Type := Program × Env × State × MethodId × Array Value × List Frame × Method × Code × (State → Prop)
def up (h : HM) (a : Nat) (e : va_E) : HM := fun b => if b = a then some e else h b
def iA (X : WX) (n : Nat) (f : Nat → Int32) : va_E := .inl (X.2.2.1.1, n, .inl f)
def zA (X : WX) (n : Nat) (f : Nat → Int32) : va_E := .inl (X.2.2.1.2.1, n, .inl f)
def pA (X : WX) (n : Nat) (f : Nat → Option Nat) : va_E := .inl (X.2.2.1.2.2, n, .inr (.inr (.inr (.inr f))))
def ob (ci : Nat) (fs : List Value) : va_E := .inr (ci, fs)
def tysOf (X : WX) : List (ClassId × FieldType) := [(X.2.2.1.1, .int), (X.2.2.1.2.1, .boolean), (X.2.2.1.2.2, .object "FastClock$Person")]
/-- the heap as told: what it says of an address stands there, at or above the base -/
def HR (X : WX) (h : HM) (H : Heap) : Prop := ∀ (a : Nat) (e : va_E), h a = some e → X.2.2.2.1 ≤ a ∧ va_at X.2.1 classes (a, e) H
def AX (X : WX) : Nat → Prop := fun q => X.2.2.2.1 ≤ q
def isSp (w : Cond) : Bool := match w with
  | .castable .. => true
  | .declares .. => true
  | .methodLinkNest .. => true
  | _ => false
def lw_sp : List Cond := lw_tbl.filter isSp
theorem isSp_warm {w : Cond} (hw : isSp w = true) {s U : State} (hW : s.WarmedH U.vm) (h : va_Nw w s) : va_Nw w U := by
  cases w <;> first | (simp [isSp] at hw; done) | exact va_Nw.warmC hW h | exact va_Nw.warmD hW h | exact va_Nw.warmM hW h
def lw_good : List Cond := lw_tbl.filter goodWord
theorem good_of {L : List Cond} (h : ∀ w ∈ L, w ∈ lw_good) : GoodIn lw_good L := fun w hw => ⟨h w hw, good_of_word (List.mem_filter.mp (h w hw)).2⟩
theorem tg (i : Nat) {w : Cond} (h : lw_tbl[i]? = some w) (g : goodWord w = true) : w ∈ lw_good := List.mem_filter.mpr ⟨List.mem_of_getElem? h, g⟩
theorem tp (i : Nat) {w : Cond} (h : lw_tbl[i]? = some w) (g : isSp w = true) : w ∈ lw_sp := List.mem_filter.mpr ⟨List.mem_of_getElem? h, g⟩
/-- the String constants: whose, which entry, the text, its bytes -/
def strS : List (String × Nat × String × List Int32) := [("FastClock$House", 83, "lesr", [108, 101, 115, 114]), ("FastClock$House", 89, "ate ", [97, 116, 101, 32]), ("FastClock$House", 91, "arly ", [97, 114, 108, 121, 32]), ("FastClock$House", 93, "low ", [108, 111, 119, 32]), ("FastClock$House", 95, "ush ", [117, 115, 104, 32]), ("FastClock$House", 108, "0123456789", [48, 49, 50, 51, 52, 53, 54, 55, 56, 57]), ("FastClock$House", 120, "pkvcds", [112, 107, 118, 99, 100, 115]), ("FastClock$House", 122, "<=>", [60, 61, 62]), ("FastClockModel", 114, "late ", [108, 97, 116, 101, 32]), ("FastClockModel", 120, "early ", [101, 97, 114, 108, 121, 32]), ("FastClockModel", 122, "slow ", [115, 108, 111, 119, 32]), ("FastClockModel", 96, "pkvcds", [112, 107, 118, 99, 100, 115]), ("FastClockModel", 102, "<=>", [60, 61, 62]), ("FastClockModel", 127, "rush ", [114, 117, 115, 104, 32])]
def lenS : List Nat := [4, 4, 5, 4, 4, 10, 6, 3, 5, 6, 5, 6, 3, 5]
def bytS : List (List Int32) := [[108, 101, 115, 114], [97, 116, 101, 32], [97, 114, 108, 121, 32], [108, 111, 119, 32], [117, 115, 104, 32], [48, 49, 50, 51, 52, 53, 54, 55, 56, 57], [112, 107, 118, 99, 100, 115], [60, 61, 62], [108, 97, 116, 101, 32], [101, 97, 114, 108, 121, 32], [115, 108, 111, 119, 32], [112, 107, 118, 99, 100, 115], [60, 61, 62], [114, 117, 115, 104, 32]]
/-- pairs of classes of people of which the first isn't under the second -/
def ncL : List (String × String) := [("FastClock$Person", "FastClock$Told"), ("FastClock$Learning", "FastClock$Told"), ("FastClock$Off", "FastClock$Told"), ("FastClock$Rash", "FastClock$Told"), ("FastClock$Wise", "FastClock$Told"), ("FastClock$Chance", "FastClock$Told"), ("FastClock$Person", "FastClock$Learning"), ("FastClock$Off", "FastClock$Learning"), ("FastClock$Rash", "FastClock$Learning"), ("FastClock$Chance", "FastClock$Learning"), ("FastClock$Told", "FastClock$Learning"), ("FastClock$Person", "FastClock$Off"), ("FastClock$Learning", "FastClock$Off"), ("FastClock$Rash", "FastClock$Off"), ("FastClock$Wise", "FastClock$Off"), ("FastClock$Told", "FastClock$Off"), ("FastClock$Person", "FastClock$Rash"), ("FastClock$Learning", "FastClock$Rash"), ("FastClock$Off", "FastClock$Rash"), ("FastClock$Wise", "FastClock$Rash"), ("FastClock$Chance", "FastClock$Rash"), ("FastClock$Person", "FastClock$Wise"), ("FastClock$Learning", "FastClock$Wise"), ("FastClock$Off", "FastClock$Wise"), ("FastClock$Rash", "FastClock$Wise"), ("FastClock$Chance", "FastClock$Wise"), ("FastClock$Told", "FastClock$Wise"), ("FastClock$Person", "FastClock$Chance"), ("FastClock$Learning", "FastClock$Chance"), ("FastClock$Off", "FastClock$Chance"), ("FastClock$Rash", "FastClock$Chance"), ("FastClock$Wise", "FastClock$Chance"), ("FastClock$Told", "FastClock$Chance")]
/-- what holds of the constants and tables, beside the words -/
def FX (X : WX) (U : State) (H : Heap) : Prop := (∀ i : Nat, i < 14 → vk_S 1 [lenS.getD i 0] [bytS.getD i []] (fun _ => X.2.2.2.2.1 i) (fun _ => X.2.2.2.2.2.1 i) (AX X) U H) ∧ (∀ (i : Nat) (q : String × Nat × String × List Int32), strS[i]? = some q → vk_R q.1 q.2.1 q.2.2.1 (X.2.2.2.2.1 i) U) ∧ (∀ w ∈ lw_sp, va_Nw w U) ∧ va_AO "FastClock$Person" U ∧ va_Z "java/lang/String" "COMPACT_STRINGS" "Z" (.int 1) (AX X) U H ∧ va_Zq "jdk/internal/util/Preconditions" "SIOOBE_FORMATTER" "Ljava/util/function/BiFunction;" (AX X) U H ∧ (∀ q ∈ ncL, va_Nc q.1 q.2 U) ∧ va_X X.2.2.2.2.2.2.1 X.2.2.2.2.2.2.2.1 X.2.2.2.2.2.2.2.2 U H ∧ X.2.2.2.2.2.2.1 < H.size ∧ ¬ AX X X.2.2.2.2.2.2.1
theorem FX.kept {X : WX} {U : State} {H H1 : Heap} (h : FX X U H) (hz : H.size ≤ H1.size) (hq : ∀ a : Nat, a < H.size → ¬ AX X a → H1[a]? = H[a]?) : FX X U H1 := ⟨fun i hi => (h.1 i hi).kept hq, h.2.1, h.2.2.1, h.2.2.2.1, h.2.2.2.2.1.kept hq, h.2.2.2.2.2.1.kept hq, h.2.2.2.2.2.2.1, h.2.2.2.2.2.2.2.1.kept (hq _ h.2.2.2.2.2.2.2.2.1 h.2.2.2.2.2.2.2.2.2), Nat.lt_of_lt_of_le h.2.2.2.2.2.2.2.2.1 hz, h.2.2.2.2.2.2.2.2.2⟩
theorem FX.warm {X : WX} {s U : State} {H : Heap} (hW : s.WarmedH U.vm) (h : FX X s H) : FX X U H := ⟨fun i hi => (h.1 i hi).moved hW.alike, fun i q hq => (h.2.1 i q hq).warm hW, fun w hw => isSp_warm (List.mem_filter.mp hw).2 hW (h.2.2.1 w hw), h.2.2.2.1.moved hW.alike, h.2.2.2.2.1.moved hW.alike, h.2.2.2.2.2.1.moved hW.alike, fun q hq => (h.2.2.2.2.2.2.1 q hq).moved hW.alike, h.2.2.2.2.2.2.2.1.moved hW.alike, h.2.2.2.2.2.2.2.2⟩
def cats (st : List Value) : Nat := (st.map fun v => v.category).sum
def prs : Nat → Lc → List (Nat × Value)
  | _, [] => []
  | k, none :: t => prs (k + 1) t
  | k, some v :: t => (k, v) :: prs (k + 1) t
/-- an activation: what holds of the machine all through a method's run -/
def Act (X : WX) (own : String) (cc : ByteArray) (nL : Nat) (rt : Option FieldType) (ini : Bool) (r : RX) : Prop :=
  r.1.tables.exec = Jvm.exec ∧ r.2.2.2.2.2.2.2.1.code = cc ∧ r.2.2.2.2.2.2.1.sig.returnType = rt ∧ r.2.2.2.2.2.2.2.1.maxLocals = nL ∧ r.2.2.1.vm.findClass own = some r.2.2.2.1.cls ∧ (∀ w ∈ lw_good, w.before r.2.2.2.2.1 r.2.2.1 = true) ∧ va_K X.2.1 classes (tysOf X) r.2.2.1 ∧ r.2.2.2.2.2.2.1.locks = false ∧ (ini = true → r.2.2.2.2.2.2.1.name = "<init>") ∧ X.2.2.2.1 ≤ r.2.2.1.heap.size ∧ FX X r.2.2.1 r.2.2.1.heap
/-- the machine at a place of the code -/
def WA (X : WX) (nL : Nat) (R : Room) (r : RX) (pc : Nat) (env : Lc) (st : List Value) (σ : AH) : Prop :=
  ∀ (H : Heap) (locs : List Loc) (ls : Array Slot), HR X σ.1 H → H.size = σ.2.1 → va_S (AX X) r.2.2.1.heap H locs → lv_has ls nL (prs 0 env) → (env.length = nL ∧ σ.2.2.1 ≤ R.cells ∧ σ.2.2.2 ≤ R.slots) →
    W r.1 X.1 r.2.1 R r.2.2.1 r.2.2.2.1 r.2.2.2.2.1 r.2.2.2.2.2.1 r.2.2.2.2.2.2.1 r.2.2.2.2.2.2.2.1 H locs σ.2.2.1 σ.2.2.2 r.2.2.2.2.2.2.2.2 (F0 r.2.2.2.1 pc ls st)
abbrev EI : Type := Lc → AH → (Int32 → AH → Prop) → Prop
abbrev EL : Type := Lc → AH → (Int64 → AH → Prop) → Prop
abbrev ER : Type := Lc → AH → (Nat → AH → Prop) → Prop
abbrev EV : Type := Lc → AH → (Value → AH → Prop) → Prop
abbrev EA : Type := Lc → AH → (List Value → AH → Prop) → Prop
abbrev EC : Type := Lc → AH → (AH → Prop) → (AH → Prop) → Prop
abbrev KN : Type := Lc → AH → Prop
abbrev KR : Type := Option Value → AH → Prop
abbrev ST : Type := Lc → AH → KN → KN → KN → KR → Prop
section FE
variable (X : WX) (own : String) (cc : ByteArray) (nL : Nat) (rt : Option FieldType) (ini : Bool) (R : Room)
def FEI (k pc pc' : Nat) (f : EI) : Prop := ∀ (r : RX), Act X own cc nL rt ini r → ∀ (env : Lc) (σ : AH) (st : List Value) (K : Int32 → AH → Prop), cats st ≤ k → f env σ K → (∀ v σ', K v σ' → WA X nL R r pc' env (.int v :: st) σ') → WA X nL R r pc env st σ
def FEL (k pc pc' : Nat) (f : EL) : Prop := ∀ (r : RX), Act X own cc nL rt ini r → ∀ (env : Lc) (σ : AH) (st : List Value) (K : Int64 → AH → Prop), cats st ≤ k → f env σ K → (∀ v σ', K v σ' → WA X nL R r pc' env (.long v :: st) σ') → WA X nL R r pc env st σ
def FER (k pc pc' : Nat) (f : ER) : Prop := ∀ (r : RX), Act X own cc nL rt ini r → ∀ (env : Lc) (σ : AH) (st : List Value) (K : Nat → AH → Prop), cats st ≤ k → f env σ K → (∀ v σ', K v σ' → WA X nL R r pc' env (.ref v :: st) σ') → WA X nL R r pc env st σ
/-- w: how many slots the value has -/
def FEV (k pc pc' w : Nat) (f : EV) : Prop := ∀ (r : RX), Act X own cc nL rt ini r → ∀ (env : Lc) (σ : AH) (st : List Value) (K : Value → AH → Prop), cats st ≤ k → f env σ K → (∀ v σ', v.category = w → K v σ' → WA X nL R r pc' env (v :: st) σ') → WA X nL R r pc env st σ
def FEA (k pc pc' n : Nat) (f : EA) : Prop := ∀ (r : RX), Act X own cc nL rt ini r → ∀ (env : Lc) (σ : AH) (st : List Value) (K : List Value → AH → Prop), cats st ≤ k → f env σ K → (∀ vs σ', vs.length = n → K vs σ' → WA X nL R r pc' env (vs.reverse ++ st) σ') → WA X nL R r pc env st σ
def FEC (k pc pt pf : Nat) (f : EC) : Prop := ∀ (r : RX), Act X own cc nL rt ini r → ∀ (env : Lc) (σ : AH) (st : List Value) (Kt Kf : AH → Prop), cats st ≤ k → f env σ Kt Kf → (∀ σ', Kt σ' → WA X nL R r pt env st σ') → (∀ σ', Kf σ' → WA X nL R r pf env st σ') → WA X nL R r pc env st σ
/-- a return: the method's end with this answer -/
def WR (r : RX) (rv : Option Value) (σ : AH) : Prop := ∀ (H : Heap) (locs : List Loc), HR X σ.1 H → H.size = σ.2.1 → va_S (AX X) r.2.2.1.heap H locs → (σ.2.2.1 ≤ R.cells ∧ σ.2.2.2 ≤ R.slots) → ∀ (pc : Nat) (ls : Array Slot),
   (rv = none → rt = none → decode cc pc = .ok (.return_, 1) → W r.1 X.1 r.2.1 R r.2.2.1 r.2.2.2.1 r.2.2.2.2.1 r.2.2.2.2.2.1 r.2.2.2.2.2.2.1 r.2.2.2.2.2.2.2.1 H locs σ.2.2.1 σ.2.2.2 r.2.2.2.2.2.2.2.2 (F0 r.2.2.2.1 pc ls []))
   ∧ (∀ v : Int32, rv = some (.int v) → (∃ ty, rt = some ty ∧ narrow ty (.int v) = .int v) → decode cc pc = .ok (.ireturn, 1) → W r.1 X.1 r.2.1 R r.2.2.1 r.2.2.2.1 r.2.2.2.2.1 r.2.2.2.2.2.1 r.2.2.2.2.2.2.1 r.2.2.2.2.2.2.2.1 H locs σ.2.2.1 σ.2.2.2 r.2.2.2.2.2.2.2.2 (F0 r.2.2.2.1 pc ls [.int v]))
   ∧ (∀ v : Int64, rv = some (.long v) → rt = some .long → decode cc pc = .ok (.lreturn, 1) → W r.1 X.1 r.2.1 R r.2.2.1 r.2.2.2.1 r.2.2.2.2.1 r.2.2.2.2.2.1 r.2.2.2.2.2.2.1 r.2.2.2.2.2.2.2.1 H locs σ.2.2.1 σ.2.2.2 r.2.2.2.2.2.2.2.2 (F0 r.2.2.2.1 pc ls [.long v]))
   ∧ (∀ v : Nat, rv = some (.ref v) → (∃ nm, rt = some (.object nm)) → decode cc pc = .ok (.areturn, 1) → W r.1 X.1 r.2.1 R r.2.2.1 r.2.2.2.1 r.2.2.2.2.1 r.2.2.2.2.2.1 r.2.2.2.2.2.2.1 r.2.2.2.2.2.2.2.1 H locs σ.2.2.1 σ.2.2.2 r.2.2.2.2.2.2.2.2 (F0 r.2.2.2.1 pc ls [.ref v]))
/-- a statement, from pc on: to pc' as a rule, to pb by break, to pq by continue -/
def FS (pc pc' pb pq : Nat) (f : ST) : Prop := ∀ (r : RX), Act X own cc nL rt ini r → ∀ (env : Lc) (σ : AH) (Kn Kb Kc : KN) (Kr : KR), f env σ Kn Kb Kc Kr → (∀ e' σ', Kn e' σ' → WA X nL R r pc' e' [] σ') → (∀ e' σ', Kb e' σ' → WA X nL R r pb e' [] σ') → (∀ e' σ', Kc e' σ' → WA X nL R r pq e' [] σ') → (∀ rv σ', Kr rv σ' → WR X cc rt R r rv σ') → WA X nL R r pc env [] σ
end FE
theorem cats_cons {v : Value} {st : List Value} : cats (v :: st) = v.category + cats st := by simp [cats]
theorem cats_i {v : Int32} {st : List Value} {k : Nat} (h : cats st ≤ k) : cats (.int v :: st) ≤ k + 1 := by rw [cats_cons]; show 1 + _ ≤ _; omega
theorem cats_r {v : Nat} {st : List Value} {k : Nat} (h : cats st ≤ k) : cats (.ref v :: st) ≤ k + 1 := by rw [cats_cons]; show 1 + _ ≤ _; omega
theorem cats_l {v : Int64} {st : List Value} {k : Nat} (h : cats st ≤ k) : cats (.long v :: st) ≤ k + 2 := by rw [cats_cons]; show 2 + _ ≤ _; omega
theorem prs_mem : ∀ (env : Lc) (k i : Nat) (v : Value), (i, v) ∈ prs k env ↔ k ≤ i ∧ env[i - k]? = some (some v) := by
  intro env
  induction env with
  | nil => intro k i v; simp [prs]
  | cons x t ih =>
    intro k i v
    cases x with
    | none =>
      rw [prs, ih]
      by_cases h : i = k
      · subst h; simp; omega
      · constructor
        · rintro ⟨a, b⟩
          refine ⟨by omega, ?_⟩
          rw [show i - k = (i - (k + 1)) + 1 by omega, List.getElem?_cons_succ]; exact b
        · rintro ⟨a, b⟩
          refine ⟨by omega, ?_⟩
          rw [show i - k = (i - (k + 1)) + 1 by omega, List.getElem?_cons_succ] at b; exact b
    | some w =>
      rw [prs, List.mem_cons, ih]
      by_cases h : i = k
      · subst h; simp
        constructor
        · rintro (h | h)
          · exact h.symm
          · omega
        · intro h; exact Or.inl h.symm
      · constructor
        · rintro (h1 | ⟨a, b⟩)
          · cases h1; omega
          · refine ⟨by omega, ?_⟩
            rw [show i - k = (i - (k + 1)) + 1 by omega, List.getElem?_cons_succ]; exact b
        · rintro ⟨a, b⟩
          refine Or.inr ⟨by omega, ?_⟩
          rw [show i - k = (i - (k + 1)) + 1 by omega, List.getElem?_cons_succ] at b; exact b
theorem lv_env {ls : Array Slot} {nL : Nat} {env : Lc} {i : Nat} {v : Value} (h : lv_has ls nL (prs 0 env)) (he : env[i]? = some (some v)) : ls[i]? = some (.val v) := h.2.2 (i, v) ((prs_mem env 0 i v).mpr ⟨Nat.zero_le _, he⟩)
/-- what a store does to the locals' values: a long whose second half is hit goes -/
def kill (env : Lc) (i : Nat) : Lc := match i with
  | 0 => env
  | j + 1 => match env[j]? with
    | some (some (.long _)) => env.set j none
    | some (some (.double _)) => env.set j none
    | _ => env
def eset (env : Lc) (i : Nat) (v : Value) : Lc := (kill env i).set i (some v)
def eset2 (env : Lc) (i : Nat) (v : Value) : Lc := ((kill env i).set i (some v)).set (i + 1) none
theorem kill_len (env : Lc) (i : Nat) : (kill env i).length = env.length := by
  unfold kill
  split
  · rfl
  · split <;> simp
theorem eset_len (env : Lc) (i : Nat) (v : Value) : (eset env i v).length = env.length := by simp [eset, kill_len]
theorem eset2_len (env : Lc) (i : Nat) (v : Value) : (eset2 env i v).length = env.length := by simp [eset2, kill_len]
theorem catOf {w : Value} (h : w.category = 2) : (∃ x, w = .long x) ∨ ∃ x, w = .double x := by
  cases w <;> first | exact Or.inl ⟨_, rfl⟩ | exact Or.inr ⟨_, rfl⟩ | (simp [Value.category] at h)
theorem kill_get {env : Lc} {i j : Nat} {w : Value} (h : (kill env i)[j]? = some (some w)) : env[j]? = some (some w) ∧ ¬ (j + 1 = i ∧ w.category = 2) := by
  unfold kill at h
  split at h
  · exact ⟨h, fun q => by omega⟩
  · rename_i k
    split at h
    · rename_i x hx
      by_cases e : j = k
      · subst e
        rw [List.getElem?_set_self (List.getElem?_eq_some_iff.mp hx).1] at h; cases h
      · rw [List.getElem?_set_ne (Ne.symm e)] at h
        exact ⟨h, fun q => e (by omega)⟩
    · rename_i x hx
      by_cases e : j = k
      · subst e
        rw [List.getElem?_set_self (List.getElem?_eq_some_iff.mp hx).1] at h; cases h
      · rw [List.getElem?_set_ne (Ne.symm e)] at h
        exact ⟨h, fun q => e (by omega)⟩
    · rename_i hn1 hn2
      refine ⟨h, fun q => ?_⟩
      obtain ⟨q1, q2⟩ := q
      have e : j = k := by omega
      subst e
      rcases catOf q2 with ⟨x, rfl⟩ | ⟨x, rfl⟩
      · exact hn1 x h
      · exact hn2 x h
theorem lv_eset {ls : Array Slot} {nL : Nat} {env : Lc} {i : Nat} {v : Value}
    (h : lv_has ls nL ((i, v) :: (prs 0 env).filter (fun q => !(q.1 == i) && !(q.1 + 1 == i && q.2.category == 2)))) : lv_has ls nL (prs 0 (eset env i v)) := by
  refine ⟨h.1, h.2.1, fun q hq => h.2.2 q ?_⟩
  obtain ⟨j, w⟩ := q
  obtain ⟨-, hw⟩ := (prs_mem _ 0 j w).mp hq
  rw [Nat.sub_zero] at hw
  unfold eset at hw
  by_cases e : j = i
  · subst e
    have hl := (List.getElem?_eq_some_iff.mp hw).1
    rw [List.length_set] at hl
    rw [List.getElem?_set_self hl] at hw
    cases hw
    exact List.mem_cons_self
  · rw [List.getElem?_set_ne (Ne.symm e)] at hw
    obtain ⟨h1, h2⟩ := kill_get hw
    refine List.mem_cons_of_mem _ (List.mem_filter.mpr ⟨(prs_mem _ 0 j w).mpr ⟨Nat.zero_le _, h1⟩, ?_⟩)
    simp only [Bool.and_eq_true, Bool.not_eq_true', beq_eq_false_iff_ne, ne_eq, Bool.and_eq_false_iff]
    refine ⟨e, ?_⟩
    by_cases e2 : j + 1 = i
    · exact Or.inr (fun hc => h2 ⟨e2, hc⟩)
    · exact Or.inl e2
theorem lv_eset2 {ls : Array Slot} {nL : Nat} {env : Lc} {i : Nat} {v : Value}
    (h : lv_has ls nL ((i, v) :: (prs 0 env).filter (fun q => !(q.1 == i) && (!(q.1 == i + 1) && !(q.1 + 1 == i && q.2.category == 2))))) : lv_has ls nL (prs 0 (eset2 env i v)) := by
  refine ⟨h.1, h.2.1, fun q hq => h.2.2 q ?_⟩
  obtain ⟨j, w⟩ := q
  obtain ⟨-, hw⟩ := (prs_mem _ 0 j w).mp hq
  rw [Nat.sub_zero] at hw
  unfold eset2 at hw
  by_cases e1 : j = i + 1
  · subst e1
    have hl := (List.getElem?_eq_some_iff.mp hw).1
    rw [List.length_set] at hl
    rw [List.getElem?_set_self hl] at hw
    cases hw
  rw [List.getElem?_set_ne (Ne.symm e1)] at hw
  by_cases e : j = i
  · subst e
    have hl := (List.getElem?_eq_some_iff.mp hw).1
    rw [List.length_set] at hl
    rw [List.getElem?_set_self hl] at hw
    cases hw
    exact List.mem_cons_self
  · rw [List.getElem?_set_ne (Ne.symm e)] at hw
    obtain ⟨h1, h2⟩ := kill_get hw
    refine List.mem_cons_of_mem _ (List.mem_filter.mpr ⟨(prs_mem _ 0 j w).mpr ⟨Nat.zero_le _, h1⟩, ?_⟩)
    simp only [Bool.and_eq_true, Bool.not_eq_true', beq_eq_false_iff_ne, ne_eq, Bool.and_eq_false_iff]
    refine ⟨e, e1, ?_⟩
    by_cases e2 : j + 1 = i
    · exact Or.inr (fun hc => h2 ⟨e2, hc⟩)
    · exact Or.inl e2
