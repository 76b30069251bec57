/-! bits (rows of the kit's BITS.to-paste) -/
def bt (x : Int32) (i : Nat) : Bool := x.toBitVec.getLsbD i
theorem b_ext {x y : Int32} (h : ∀ i, i < 32 → bt x i = bt y i) : x = y := Int32.toBitVec_inj.mp (BitVec.eq_of_getLsbD_eq (fun i hi => h i hi))
theorem b_or (x y : Int32) (i : Nat) : bt (x ||| y) i = (bt x i || bt y i) := by unfold bt; rw [Int32.toBitVec_or, BitVec.getLsbD_or]
theorem b_and (x y : Int32) (i : Nat) : bt (x &&& y) i = (bt x i && bt y i) := by unfold bt; rw [Int32.toBitVec_and, BitVec.getLsbD_and]
theorem b_xor (x y : Int32) (i : Nat) : bt (x ^^^ y) i = (bt x i ^^ bt y i) := by unfold bt; rw [Int32.toBitVec_xor, BitVec.getLsbD_xor]
theorem b_big {x : Int32} {i : Nat} (h : 32 ≤ i) : bt x i = false := BitVec.getLsbD_of_ge _ _ h
theorem b_255 (i : Nat) : bt 255 i = decide (i < 8) := by
  rcases Nat.lt_or_ge i 32 with h | h
  · exact (by decide +kernel : ∀ i, i < 32 → bt 255 i = decide (i < 8)) i h
  · rw [b_big h, decide_eq_false (by omega)]
theorem b_65535 (i : Nat) : bt 65535 i = decide (i < 16) := by
  rcases Nat.lt_or_ge i 32 with h | h
  · exact (by decide +kernel : ∀ i, i < 32 → bt 65535 i = decide (i < 16)) i h
  · rw [b_big h, decide_eq_false (by omega)]
theorem b_m1 : ∀ i, i < 32 → bt (-1) i = true := by decide +kernel
theorem b_0 (i : Nat) : bt 0 i = false := BitVec.getLsbD_zero
theorem s_l : ∀ n, n < 32 → ((nI n &&& 31).toBitVec.smod 32).toNat = n := by decide +kernel
theorem s_u : ∀ n, n < 32 → (((nI n).toUInt32 &&& Int32.toUInt32 31).toBitVec % 32).toNat = n := by decide +kernel
theorem b_shl (n : Nat) (hn : n < 32) (x : Int32) {i : Nat} (hi : i < 32) : bt (x <<< (nI n &&& 31)) i = (decide (n ≤ i) && bt x (i - n)) := by
  unfold bt
  rw [Int32.toBitVec_shiftLeft]
  show (x.toBitVec <<< ((nI n &&& 31).toBitVec.smod 32).toNat).getLsbD i = _
  rw [s_l n hn, BitVec.getLsbD_shiftLeft]
  rcases Nat.lt_or_ge i n with h | h
  · simp [h, Nat.not_le.mpr h]
  · simp [hi, h, Nat.not_lt.mpr h]
theorem b_ushr (n : Nat) (hn : n < 32) (x : Int32) (i : Nat) : bt ((x.toUInt32 >>> ((nI n).toUInt32 &&& Int32.toUInt32 31)).toInt32) i = bt x (n + i) := by
  show (x.toUInt32 >>> ((nI n).toUInt32 &&& Int32.toUInt32 31)).toBitVec.getLsbD i = x.toUInt32.toBitVec.getLsbD (n + i)
  rw [UInt32.toBitVec_shiftRight]
  show (x.toUInt32.toBitVec >>> (((nI n).toUInt32 &&& Int32.toUInt32 31).toBitVec % 32).toNat).getLsbD i = _
  rw [s_u n hn, BitVec.getLsbD_ushiftRight]
theorem b_sshr (n : Nat) (hn : n < 32) (x : Int32) {i : Nat} (hi : i < 32) : bt (x >>> (nI n &&& 31)) i = if n + i < 32 then bt x (n + i) else bt x 31 := by
  unfold bt
  rw [Int32.toBitVec_shiftRight]
  show (x.toBitVec.sshiftRight ((nI n &&& 31).toBitVec.smod 32).toNat).getLsbD i = _
  rw [s_l n hn, BitVec.getLsbD_sshiftRight, BitVec.msb_eq_getLsbD_last]
  simp [hi]
theorem nx_and (a b : Nat) : nI a &&& nI b = nI (a &&& b) := by
  apply Int32.toBitVec_inj.1
  show BitVec.ofNat 32 a &&& BitVec.ofNat 32 b = BitVec.ofNat 32 (a &&& b)
  apply BitVec.eq_of_getLsbD_eq
  intro i hi
  simp [hi]
theorem nx_xor (a b : Nat) : nI a ^^^ nI b = nI (a ^^^ b) := by
  apply Int32.toBitVec_inj.1
  show BitVec.ofNat 32 a ^^^ BitVec.ofNat 32 b = BitVec.ofNat 32 (a ^^^ b)
  apply BitVec.eq_of_getLsbD_eq
  intro i hi
  simp [hi]
theorem bt_nI {n i : Nat} (hi : i < 32) : bt (nI n) i = n.testBit i := by
  show (BitVec.ofNat 32 n).getLsbD i = _
  rw [BitVec.getLsbD_ofNat]
  simp [hi]
theorem nx_or (a b : Nat) : nI a ||| nI b = nI (a ||| b) := by
  apply Int32.toBitVec_inj.1
  show BitVec.ofNat 32 a ||| BitVec.ofNat 32 b = BitVec.ofNat 32 (a ||| b)
  apply BitVec.eq_of_getLsbD_eq
  intro i hi
  simp [hi]
/-- the truths on the stack as the lowest bits of one number -/
def num : List Bool → Nat
  | [] => 0
  | b :: st => b.toNat + 2 * num st
theorem num_lt : ∀ {st : List Bool}, num st < 2 ^ st.length
  | [] => by decide
  | b :: st => by
    have := num_lt (st := st)
    have h2 : b.toNat ≤ 1 := Bool.toNat_le b
    simp only [num, List.length_cons, Nat.pow_succ]
    omega
theorem num_20 {st : List Bool} (h : st.length ≤ 20) : num st < 2 ^ 20 := Nat.lt_of_lt_of_le num_lt (Nat.pow_le_pow_right (by omega) h)
theorem num_tb0 {b : Bool} {st : List Bool} : (num (b :: st)).testBit 0 = b := by
  simp only [num, Nat.testBit_zero]
  cases b
  · simp
  · simp
theorem num_tbs {b : Bool} {st : List Bool} {i : Nat} : (num (b :: st)).testBit (i + 1) = (num st).testBit i := by
  rw [Nat.testBit_succ]
  congr 1
  have h2 : b.toNat ≤ 1 := Bool.toNat_le b
  simp only [num]
  omega
theorem num_hi {st : List Bool} {i : Nat} (h : st.length ≤ 20) (hi : 20 ≤ i) : (num st).testBit i = false :=
  Nat.testBit_lt_two_pow (Nat.lt_of_lt_of_le (num_20 h) (Nat.pow_le_pow_right (by omega) hi))
theorem jshr1 {n i : Nat} (hn : n < 2 ^ 31) (hi : i < 32) : bt (jshr (nI n) (nI 1)) i = n.testBit (i + 1) := by
  unfold jshr
  rw [show (31 : Int32) = 31 from rfl, b_sshr 1 (by omega) _ hi]
  by_cases q : 1 + i < 32
  · rw [if_pos q, bt_nI q, Nat.add_comm]
  · rw [if_neg q, bt_nI (by omega)]
    have : i = 31 := by omega
    subst this
    rw [Nat.testBit_lt_two_pow hn, Nat.testBit_lt_two_pow (Nat.lt_trans hn (by decide))]
theorem jshl1 {n i : Nat} (hi : i < 32) : bt (jshl (nI n) (nI 1)) i = (decide (1 ≤ i) && n.testBit (i - 1)) := by
  unfold jshl
  rw [b_shl 1 (by omega) _ hi]
  by_cases q : 1 ≤ i
  · rw [bt_nI (by omega)]
  · simp [q]
theorem bt_m2 : ∀ i, i < 32 → bt (-nI 2) i = decide (1 ≤ i) := by decide +kernel
theorem bt_1 : ∀ i, i < 32 → bt (nI 1) i = decide (i = 0) := by decide +kernel
theorem bt_0 : ∀ i, i < 32 → bt (nI 0) i = false := by decide +kernel
theorem num_not {b : Bool} {st : List Bool} : nI (num (b :: st)) ^^^ nI 1 = nI (num ((!b) :: st)) := by
  apply b_ext
  intro i hi
  rw [b_xor, bt_1 i hi, bt_nI hi, bt_nI hi]
  cases i with
  | zero => rw [num_tb0, num_tb0]; simp
  | succ i => rw [num_tbs, num_tbs]; simp
theorem num_and {a b : Bool} {st : List Bool} (h : st.length ≤ 18) : jshr (nI (num (b :: a :: st))) (nI 1) &&& (nI (num (b :: a :: st)) ||| -nI 2) = nI (num ((a && b) :: st)) := by
  have hl := num_20 (st := b :: a :: st) (by simp only [List.length_cons]; omega)
  apply b_ext
  intro i hi
  rw [b_and, b_or, bt_nI hi, bt_nI hi, jshr1 (by omega) hi, bt_m2 i hi]
  cases i with
  | zero => rw [num_tb0, num_tb0, num_tbs, num_tb0]; simp
  | succ i => rw [num_tbs, num_tbs, num_tbs, num_tbs]; simp
theorem num_or {a b : Bool} {st : List Bool} (h : st.length ≤ 18) : (jshr (nI (num (b :: a :: st))) (nI 1) ||| nI (num (b :: a :: st)) &&& nI 1) = nI (num ((a || b) :: st)) := by
  have hl := num_20 (st := b :: a :: st) (by simp only [List.length_cons]; omega)
  apply b_ext
  intro i hi
  rw [b_or, b_and, bt_1 i hi, bt_nI hi, bt_nI hi, jshr1 (by omega) hi]
  cases i with
  | zero => rw [num_tb0, num_tb0, num_tbs, num_tb0]; simp
  | succ i => rw [num_tbs, num_tbs, num_tbs, num_tbs]; simp
theorem num_push {b : Bool} {st : List Bool} (h : st.length ≤ 19) : (jshl (nI (num st)) (nI 1) ||| nI b.toNat) = nI (num (b :: st)) := by
  apply b_ext
  intro i hi
  rw [b_or, bt_nI hi, bt_nI hi, jshl1 hi]
  cases i with
  | zero =>
    rw [num_tb0]
    cases b <;> simp
  | succ i =>
    rw [num_tbs]
    have : b.toNat.testBit (i + 1) = false := Nat.testBit_lt_two_pow (Nat.lt_of_le_of_lt (Bool.toNat_le b) (Nat.one_lt_two_pow (by omega)))
    rw [this]; simp
theorem num_top {b : Bool} {st : List Bool} : (nI (num (b :: st)) &&& nI 1 = nI 1) = (b = true) := by
  apply propext
  constructor
  · intro h
    have := congrArg (fun x => bt x 0) h
    have this : bt (nI (num (b :: st)) &&& nI 1) 0 = bt (nI 1) 0 := this
    rw [b_and, bt_nI (by omega), bt_nI (by omega), num_tb0] at this
    simpa using this
  · intro h
    subst h
    apply b_ext
    intro i hi
    rw [b_and, bt_1 i hi, bt_nI hi]
    cases i with
    | zero => rw [num_tb0]; simp
    | succ i => simp
theorem num_nil : (nI (num []) &&& nI 1 = nI 1) = False := by decide
