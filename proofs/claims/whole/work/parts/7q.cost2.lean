section CST2
variable {S : Nat → Int32} {k : Nat} {x y z : Int32}
def Bd (A : Int) (x : Int32) : Prop := -A ≤ x.toInt ∧ x.toInt ≤ A
theorem Bd.mono {A B : Int} (h : Bd A x) (hA : A ≤ B) : Bd B x := by unfold Bd at h ⊢; omega
theorem Bd.add {A B : Int} (h : Bd A x) (h2 : Bd B y) (hs : A + B < 2147483648) : Bd (A + B) (x + y) := by
  unfold Bd at h h2 ⊢
  rw [Int32.toInt_add, Int.bmod_eq_of_le (by omega) (by omega)]; omega
theorem Bd.sub {A B : Int} (h : Bd A x) (h2 : Bd B y) (hs : A + B < 2147483648) : Bd (A + B) (x - y) := by
  unfold Bd at h h2 ⊢
  rw [Int32.toInt_sub, Int.bmod_eq_of_le (by omega) (by omega)]; omega
theorem Bd.neg {A : Int} (h : Bd A x) (hs : A < 2147483648) : Bd A (-x) := by
  unfold Bd at h ⊢
  rw [Int32.toInt_neg, Int.bmod_eq_of_le (by omega) (by omega)]; omega
theorem tdiv2 {x : Int} : (0 ≤ x → 0 ≤ x.tdiv 2 ∧ x.tdiv 2 * 2 ≤ x) ∧ (x ≤ 0 → x.tdiv 2 ≤ 0 ∧ x ≤ x.tdiv 2 * 2) := by
  refine ⟨fun h => ?_, fun h => ?_⟩
  · rw [Int.tdiv_eq_ediv_of_nonneg h]; omega
  · obtain ⟨y, hy, rfl⟩ : ∃ y : Int, 0 ≤ y ∧ x = -y := ⟨-x, by omega, by omega⟩
    rw [Int.neg_tdiv, Int.tdiv_eq_ediv_of_nonneg hy]; omega
theorem Bd.half {A : Int} (h : Bd A x) (hs : A < 2147483648) : Bd A (x / 2) := by
  unfold Bd at h ⊢
  obtain ⟨t1, t2⟩ := tdiv2 (x := x.toInt)
  have e : (x / 2).toInt = x.toInt.tdiv 2 := by
    rw [Int32.toInt_div, show (2 : Int32).toInt = 2 from by decide]
    refine Int.bmod_eq_of_le ?_ ?_
    · by_cases c : 0 ≤ x.toInt
      · have := t1 c; omega
      · have := t2 (by omega); omega
    · by_cases c : 0 ≤ x.toInt
      · have := t1 c; omega
      · have := t2 (by omega); omega
  rw [e]
  by_cases c : 0 ≤ x.toInt
  · have := t1 c; omega
  · have := t2 (by omega); omega
theorem Bd_nI {n : Nat} (h : n < 2147483648) : Bd n (nI n) := by
  unfold Bd
  rw [nI_toInt h]; omega
theorem Bd.mul {A : Int} {v : Nat} (h : Bd A x) (hv : v < 100) (hA : A ≤ 100000) : Bd (99 * A) (x * nI v) := by
  unfold Bd at h ⊢
  obtain ⟨h1, h2⟩ := h
  have e1 : (nI v).toInt = (v : Int) := nI_toInt (by omega)
  have b1 : x.toInt * (v : Int) ≤ A * 99 := by
    have c1 : x.toInt * (v : Int) ≤ A * (v : Int) := Int.mul_le_mul_of_nonneg_right h2 (by omega)
    have c2 : A * (v : Int) ≤ A * 99 := Int.mul_le_mul_of_nonneg_left (by omega) (by omega)
    omega
  have b2 : -(A * 99) ≤ x.toInt * (v : Int) := by
    have c1 : (-A) * (v : Int) ≤ x.toInt * (v : Int) := Int.mul_le_mul_of_nonneg_right h1 (by omega)
    have c2 : A * (v : Int) ≤ A * 99 := Int.mul_le_mul_of_nonneg_left (by omega) (by omega)
    rw [Int.neg_mul] at c1
    omega
  rw [Int32.toInt_mul, e1, Int.bmod_eq_of_le (by omega) (by omega)]
  omega
theorem Bd.i60 (h : isIn x (-60) 60 = true) : Bd 60 x := in60 h
/-- a row whose day may be any -/
def BD (S : Nat → Int32) : Prop := (∀ j, j ≠ 2 → PT j (S j)) ∧ okL (progS S) ∧ (∃ v, v < 100 ∧ sTells S 200 3 = nI v) ∧ ∃ v, v < 100 ∧ sTells S 205 1 = nI v
theorem BD_nP (h : BD S) : nP S ≤ 6 := by
  obtain ⟨n, hn, e⟩ := (h.1 11 (by omega)).2.2.2.2.1 rfl
  rw [nP_of hn e]; exact hn
theorem BD.of {S' : Nat → Int32} (h : BD S) (hp : ∀ j, j ≠ 2 → PT j (S' j)) (he : ∀ j, 11 ≤ j → S' j = S j) : BD S' := by
  have ho : hold S' = hold S := by unfold hold; rw [he 17 (by omega)]
  have ht : ∀ w nn, 200 ≤ w → sTells S' w nn = sTells S w nn := fun w nn hw => by unfold sTells; rw [he 17 (by omega), ho, he _ (by omega)]
  have hg : progS S' = progS S := by
    unfold progS
    rw [he 17 (by omega), ho, he (210 + hold S) (by omega)]
    split
    · rfl
    · exact List.map_congr_left (fun j _ => he _ (by omega))
  refine ⟨hp, ?_, ?_, ?_⟩
  · rw [hg]; exact h.2.1
  · rw [ht _ _ (by omega)]; exact h.2.2.1
  · rw [ht _ _ (by omega)]; exact h.2.2.2
theorem BD.clock (h : BD S) {p : Nat} (hp : p < 6) : ∃ c, c < 2 ∧ S (30 + p) = nI c ∧ sFastOf S p = S c := by
  obtain ⟨c, hc, e⟩ := (h.1 (30 + p) (by omega)).2.2.2.2.2.2.2.1 (by omega)
  refine ⟨c, hc, e, ?_⟩
  unfold sFastOf
  rw [e, nI_clamp (by omega)]
theorem BD.v (h : BD S) {p : Nat} (hp : p < 6) : ∃ v, v ≤ 9 ∧ S (24 + p) = nI v := (h.1 (24 + p) (by omega)).2.2.2.2.2.2.1 (by omega)
theorem BD.bel (h : BD S) {p : Nat} (hp : p < 6) : isIn (sBel S p) (-60) 60 = true := by
  unfold sBel
  have hb := (h.1 (5 + p) (by omega)).1 (by omega)
  split
  · obtain ⟨v, hv, e⟩ := h.v hp
    obtain ⟨c, hc, -, ef⟩ := h.clock hp
    rw [e, ef]
    exact bel_in hb ((h.1 c (by omega)).1 (by omega)) hv
  · exact hb
theorem BD.goes (h : BD S) : BD (sGoes S) := by
  have hn := BD_nP h
  refine h.of (fun j hj => ?_) (fun j hj => sGoes_hi hn hj)
  unfold sGoes
  rw [if_neg hj]
  by_cases q : j = 3
  · subst q
    rw [if_pos rfl]
    obtain ⟨s, hs, e⟩ := (h.1 3 (by omega)).2.2.1 rfl
    rw [e]
    by_cases c : s < 9
    · rw [if_pos (show nI s < 9 from (nI_ltI (b := 9) (by omega) (by omega)).mpr c), show nI s + 1 = nI (s + 1) from nI_add s 1]
      exact PT_3 (by omega)
    · rw [if_neg (show ¬ nI s < 9 from fun z => c ((nI_ltI (b := 9) (by omega) (by omega)).mp z)), Int32.add_zero]
      exact PT_3 hs
  · rw [if_neg q]
    unfold belS
    by_cases c : 5 ≤ j ∧ j < 5 + nP S
    · rw [if_pos c]
      exact PT_in (by omega) (h.bel (by omega))
    · rw [if_neg c]; exact h.1 j hj
theorem BD_goN (h : BD S) : ∀ n, BD (goN S n)
  | 0 => h
  | n + 1 => (BD_goN h n).goes
theorem BD.sset (h : BD S) {c : Nat} (hc : c < 2) (hx : isIn x (-60) 60 = true) : BD (sSet S c x) := by
  refine h.of (fun j hj => ?_) (fun j hj => sSet_hi hc hj)
  have p4 := PT_4 (sub_in hx ((h.1 c (by omega)).1 (by omega)))
  unfold sSet
  by_cases q3 : j = 3
  · subst q3; rw [upd_s]; exact PT_3 (s := 0) (by omega)
  · rw [upd_n q3]
    by_cases qc : j = c
    · subst qc; rw [upd_s]; exact PT_in (by omega) hx
    · rw [upd_n qc]
      by_cases q4 : j = 4
      · subst q4; rw [upd_s]; exact p4
      · rw [upd_n q4]; exact h.1 j hj
theorem BD.taken (h : BD S) {p : Nat} (hp : p < 6) : Bd 200 (sTaken S p) := by
  have hb := Bd.i60 ((h.1 (5 + p) (by omega)).1 (by omega))
  obtain ⟨v, hv, ev⟩ := h.v hp
  have h4 : Bd 120 (S 4) := (h.1 4 (by omega)).2.2.2.1 rfl
  have h0 := Bd.i60 ((h.1 0 (by omega)).1 (by omega))
  have h1 := Bd.i60 ((h.1 1 (by omega)).1 (by omega))
  have hv9 : Bd 9 (S (24 + p)) := by rw [ev]; exact (Bd_nI (by omega)).mono (by omega)
  have z0 : Bd 0 (0 : Int32) := ⟨by decide, by decide⟩
  unfold sTaken
  split
  · exact hb.mono (by omega)
  · split
    · exact (hb.add hv9 (by omega)).mono (by omega)
    · split
      · split
        · exact (hb.add (h4.half (by omega)) (by omega)).mono (by omega)
        · exact (hb.add z0 (by omega)).mono (by omega)
      · split
        · have hd : Bd 120 (S 0 - S 1) := (h0.sub h1 (by omega)).mono (by omega)
          have ha : Bd 120 (if S 0 - S 1 < 0 then -(S 0 - S 1) else S 0 - S 1) := by
            split
            · exact hd.neg (by omega)
            · exact hd
          exact ((hb.add hv9 (by omega)).sub (ha.half (by omega)) (by omega)).mono (by omega)
        · split
          · have hm : (S 2).toNatClampNeg % 4 < 4 := Nat.mod_lt _ (by omega)
            obtain ⟨u, hu, e⟩ := (h.1 (36 + 4 * p + (S 2).toNatClampNeg % 4) (by omega)).2.2.2.2.2.2.1 (by omega)
            rw [e]
            exact (Bd_nI (by omega)).mono (by omega)
          · exact z0.mono (by omega)
theorem BD.margin (h : BD S) {p : Nat} (hp : p < 6) : Bd 1000 (sMargin S p) := by
  obtain ⟨v, hv, ev⟩ := h.v hp
  have hv9 : Bd 9 (S (24 + p)) := by rw [ev]; exact (Bd_nI (by omega)).mono (by omega)
  have z0 : Bd 9 (0 : Int32) := ⟨by decide, by decide⟩
  have hr : Bd 990 (marginRaw S p) := by
    have := evalR_bd (e := eOf S p) 10 (B := 0) h.2.1.1 h.2.1.2.2 (by omega) (by omega) (by decide) (show (0 : Int32).toInt ≤ 0 by decide)
    unfold Bd marginRaw
    omega
  unfold sMargin
  refine (hr.sub (B := 9) ?_ (by omega)).mono (by omega)
  split
  · exact hv9
  · exact z0
theorem BD.late (h : BD S) {p : Nat} (hp : p < 6) : Bd 1260 (sLate S p) := by
  obtain ⟨c, hc, -, ef⟩ := h.clock hp
  unfold sLate
  rw [ef]
  exact (((h.taken hp).sub (Bd.i60 ((h.1 c (by omega)).1 (by omega))) (by omega)).sub (h.margin hp) (by omega)).mono (by omega)
theorem BD.cost (h : BD S) (hx : Bd 1400 x) : Bd 138600 (sCost S x) := by
  obtain ⟨v, hv, e1⟩ := h.2.2.1
  obtain ⟨u, hu, e2⟩ := h.2.2.2
  unfold sCost
  rw [e1, e2]
  split
  · exact (hx.mul hv (by omega)).mono (by omega)
  · exact ((hx.neg (by omega)).mul hu (by omega)).mono (by omega)
theorem Bd_csum {f : Nat → Int32} {A : Int} (hA : 0 ≤ A) (hA2 : A ≤ 10000000) : ∀ {n : Nat}, n ≤ 100 → (∀ k, k < n → Bd A (f k)) → Bd (A * n) (csum f n)
  | 0, _, _ => by
    show Bd (A * 0) (0 : Int32)
    rw [Int.mul_zero]
    exact ⟨by decide, by decide⟩
  | n + 1, hn, h => by
    have h1 := Bd_csum hA hA2 (n := n) (by omega) (fun k hk => h k (by omega))
    have hb : A * (n : Int) ≤ A * 100 := Int.mul_le_mul_of_nonneg_left (by omega) hA
    refine (h1.add (h n (by omega)) (by omega)).mono ?_
    rw [show ((n + 1 : Nat) : Int) = (n : Int) + 1 from rfl, Int.mul_add]
    omega
theorem BD.all (h : BD S) (hx : Bd 60 x) : Bd 831600 (sAll S x) := by
  have hn := BD_nP h
  have h1 := Bd_csum (f := fun p => sCost S (sLate S p - x)) (A := 138600) (by omega) (by omega) (n := nP S) (by omega) (fun p hp => h.cost (((h.late (by omega)).sub hx (by omega)).mono (by omega)))
  exact h1.mono (by omega)
theorem BD.on (h : BD S) (hx : Bd 60 x) {q : Nat} (hq : q ≤ 20) : sOn S x q < nI 100000000 := by
  have h1 := Bd_csum (f := fun k => sAll (goN S k) x) (A := 831600) (by omega) (by omega) (n := q) (by omega) (fun k hk => (BD_goN h k).all hx)
  have h2 : (sOn S x q).toInt ≤ 831600 * (q : Int) := h1.2
  refine Int32.lt_iff_toInt_lt.mpr ?_
  rw [nI_toInt (by omega)]
  omega
theorem BD.rows (h : BD S) {c : Nat} (hc : c < 2) {g : Nat → Nat} (hg : ∀ k, g k ≤ 4) : ∀ k, BD (rwS S c g k)
  | 0 => h
  | k + 1 => ((BD.rows h hc hg k).sset hc (in60_of (by have := hg k; rw [nI_toInt (by omega)]; omega))).goes
theorem BD.row (h : BD S) {c : Nat} (hc : c < 2) {g : Nat → Nat} (hg : ∀ k, g k ≤ 4) : ∀ {n : Nat}, n ≤ 100 → Bd (831600 * n) (rwC S c g n)
  | 0, _ => show Bd (831600 * 0) (nI 0) from ⟨by decide, by decide⟩
  | n + 1, hn => by
    have h1 := BD.row h hc hg (n := n) (by omega)
    have h2 : BD (sSet (rwS S c g n) c (nI (5 * g n))) := (h.rows hc hg n).sset hc (in60_of (by have := hg n; rw [nI_toInt (by omega)]; omega))
    refine (h1.add (h2.all (x := nI 0) ((Bd_nI (by omega)).mono (by omega))) (by omega)).mono ?_
    omega
theorem BD.best (h : BD S) {c q : Nat} (hc : c < 2) (hq : q ≤ 20) : sOn (sSet S c (zI 30 0)) (nI 0) q < nI 100000000 := (h.sset hc (by decide)).on ((Bd_nI (by omega)).mono (by omega)) hq
theorem BD.call (h : BD S) {q : Nat} (hq : q ≤ 20) : sOn S (nI 0) q < nI 100000000 := h.on ((Bd_nI (by omega)).mono (by omega)) hq
theorem BD.rowOf (h : BD S) {c n : Nat} (hc : c < 2) (hn : n ≤ 4) : rwC S c (dg n 0) n < nI 100000000 := by
  have h1 := h.row hc (g := dg n 0) (fun k => by unfold dg; omega) (n := n) (by omega)
  refine Int32.lt_iff_toInt_lt.mpr ?_
  have h2 := h1.2
  rw [nI_toInt (by omega)]
  omega
/-- the bounds hold of what the class stands for -/
theorem IV.BD {X : WX} {P : Nat → Option PD} {Q : Nat → Option HDs} {dh : HM} {w : (Nat → Option Nat) × Nat} (h : IV S) (hD : DI X P Q dh) (hS : SK P Q (S, w)) : BD S := by
  have h17 : (sTells S 200 3 = 3 ∧ sTells S 205 1 = 1) ∨ ((∃ v, v < 100 ∧ sTells S 200 3 = nI v) ∧ ∃ v, v < 100 ∧ sTells S 205 1 = nI v) := by
    obtain ⟨a, h1, h2, h3, h4⟩ := h.2.1
    rcases h3 with h3 | ⟨q, hq, h3⟩
    · exact Or.inl ⟨if_pos h3, if_pos h3⟩
    · right
      obtain ⟨g1, g2, -⟩ := h4 q hq
      have e : ∀ u nn, sTells S u nn = S (u + q) := fun u nn => by
        unfold sTells hold
        rw [h3, if_neg (by rw [show (-1 : Int32) = -nI 1 from rfl]; rw [neg1_ne (by omega)]; exact not_false), nI_clamp (by omega)]
      rw [e, e]
      exact ⟨g1, g2⟩
  obtain ⟨-, hL, -⟩ := hD.2 _ _ hS.2
  refine ⟨fun j _ => h.1 j, hL, ?_⟩
  rcases h17 with ⟨h1, h2⟩ | h1
  · rw [h1, h2]
    exact ⟨⟨3, by omega, rfl⟩, ⟨1, by omega, rfl⟩⟩
  · exact h1
end CST2
