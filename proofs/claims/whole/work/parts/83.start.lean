section START
/-! from the law's entry: what the Statement gives of the start -/
theorem kn_of {s : State} {args : Array Value} (hts : ∀ w ∈ lw_tbl, w.before args s = true) {own : String} {idx ci N : Nat} {fs0 : List Value} (hN : NOK own idx ci N fs0) : ∃ z : ClassId × (Nat → Nat), ∀ q : vw_C, classes[ci]? = some q → u_Kn s q.1 q.2.1 q.2.2 z.1 z.2 := by
  obtain ⟨C, T, t0, e, hw, -, -, -, hi, -⟩ := hN
  obtain ⟨c, i, h⟩ := u_known (ws := lw_good) (fun w hw => hts w (List.mem_filter.mp hw).1) hw (hts _ (List.mem_filter.mp hi).1)
  refine ⟨(c, i), fun q hq => ?_⟩
  rw [e] at hq
  cases hq
  exact h
theorem cls_known {s : State} {args : Array Value} (hts : ∀ w ∈ lw_tbl, w.before args s = true) : ∃ (dC : Nat → ClassId) (dI : Nat → Nat → Nat), ∀ (k : Nat) (q : vw_C), classes[k]? = some q → u_Kn s q.1 q.2.1 q.2.2 (dC k) (dI k) := by
  have h : ∀ k : Nat, ∃ z : ClassId × (Nat → Nat), ∀ q : vw_C, classes[k]? = some q → u_Kn s q.1 q.2.1 q.2.2 z.1 z.2 := fun k => by
    match k with
    | 0 => exact kn_of hts N_Law_7
    | 1 => exact kn_of hts N_FC_9
    | 2 => exact kn_of hts N_FC_25
    | 3 => exact kn_of hts N_FC_32
    | 4 => exact kn_of hts N_FC_35
    | 5 => exact kn_of hts N_FC_265
    | 6 => exact kn_of hts N_FC_268
    | 7 => exact kn_of hts N_FC_271
    | 8 => exact kn_of hts N_FC_274
    | 9 => exact kn_of hts N_FC_277
    | 10 => exact kn_of hts N_FC_128
    | 11 => exact kn_of hts N_FC_40
    | 12 => exact kn_of hts N_Law_10
    | n + 13 =>
      obtain ⟨z, -⟩ := kn_of hts N_Law_7
      exact ⟨z, fun q hq => by simp [classes] at hq⟩
  obtain ⟨f, hf⟩ := Classical.axiomOfChoice h
  exact ⟨fun k => (f k).1, fun k => (f k).2, hf⟩
theorem arr_known {s : State} {args : Array Value} (hts : ∀ w ∈ lw_tbl, w.before args s = true) : ∃ cI cZ cP : ClassId, ∀ (k : Nat) (q : ClassId × FieldType), [(cI, FieldType.int), (cZ, FieldType.boolean), (cP, FieldType.object "FastClock$Person")][k]? = some q → ArrOfT s q.1 q.2 ∧ va_RA s q.1 q.2 := by
  obtain ⟨cI, kI, mI, a1, a2, a3⟩ := Cond.arrayClass_spec (hts (.arrayClass .int) (by decide +kernel))
  obtain ⟨cZ, kZ, mZ, b1, b2, b3⟩ := Cond.arrayClass_spec (hts (.arrayClass .boolean) (by decide +kernel))
  obtain ⟨mP, cP, kP, d1, d2, d3, d4, d5⟩ := Cond.arrayOver_spec (hts (.arrayOver (.object "FastClock$Person")) (by decide +kernel))
  refine ⟨cI, cZ, cP, fun k q hq => ?_⟩
  match k, hq with
  | 0, hq => cases hq; exact ⟨fun n z => ⟨fun k h => (by cases h), kI, a2, mI, a3⟩, a1⟩
  | 1, hq => cases hq; exact ⟨fun n z => ⟨fun k h => (by cases h), kZ, b2, mZ, b3⟩, b1⟩
  | 2, hq => cases hq; exact ⟨fun n z => ⟨fun k h => (by cases h), kP, d3, mP, d4⟩, kP, mP, d3, d4, d1, d5⟩
  | k + 3, hq => simp at hq
/-- the String constants -/
def strQ (i : Nat) : String × Nat × String × List Int32 := strS.getD i ("", 0, "", [])
def tmS (i : Nat) : Term := .string (strQ i).1 (strQ i).2.1
theorem fl_ex : ∀ i, i < 14 → Cond.exactly (tmS i) "java/lang/String" ∈ flatC (Jvm.Cond.and given_1 narrow_1) := by decide +kernel
theorem fl_co : ∀ i, i < 14 → Cond.eq (.field (tmS i) "java/lang/String" "coder" "B") (.int 0) ∈ flatC (Jvm.Cond.and given_1 narrow_1) := by decide +kernel
theorem fl_ar : ∀ i, i < 14 → Cond.arrayOf (.field (tmS i) "java/lang/String" "value" "[B") .byte ∈ flatC (Jvm.Cond.and given_1 narrow_1) := by decide +kernel
theorem fl_le : ∀ i, i < 14 → Cond.eq (.length (.field (tmS i) "java/lang/String" "value" "[B")) (.int (Int32.ofNat (lenS.getD i 0))) ∈ flatC (Jvm.Cond.and given_1 narrow_1) := by decide +kernel
theorem fl_el : ∀ i, i < 14 → ∀ j, j < lenS.getD i 0 → Cond.eq (.elem (.field (tmS i) "java/lang/String" "value" "[B") (.int (Int32.ofNat j))) (.int ((bytS.getD i []).getD j 0)) ∈ flatC (Jvm.Cond.and given_1 narrow_1) := by decide +kernel
theorem sr_in : ∀ q ∈ strS, Cond.stringRef q.1 q.2.1 q.2.2.1 ∈ lw_tbl := by decide +kernel
theorem nc_in : ∀ q ∈ ncL, Cond.not (.castable q.1 q.2) ∈ flatC (Jvm.Cond.and given_1 narrow_1) := by decide +kernel
theorem len_S : ∀ i, i < 14 → lenS.getD i 0 < 2 ^ 31 := by decide +kernel
theorem str_known {s : State} {args : Array Value} {A : Nat → Prop} (hs : ∀ w ∈ flatC (Jvm.Cond.and given_1 narrow_1), w.before args s = true) (hA : ∀ a : Nat, a < s.heap.size → ¬ A a) : ∃ adK adV : Nat → Nat, (∀ i : Nat, i < 14 → vk_S 1 [lenS.getD i 0] [bytS.getD i []] (fun _ => adK i) (fun _ => adV i) A s s.heap) ∧ ∀ i : Nat, i < 14 → (tmS i).eval args s none [] s = some (.ref (adK i)) := by
  have h : ∀ i : Nat, ∃ z : Nat × Nat, i < 14 → vk_S 1 [lenS.getD i 0] [bytS.getD i []] (fun _ => z.1) (fun _ => z.2) A s s.heap ∧ (tmS i).eval args s none [] s = some (.ref z.1) := fun i => by
    by_cases hi : i < 14
    · obtain ⟨aK, aV, h1, h2⟩ := vk_Sof (args := args) (s := s) (N := 1) (tm := fun _ => tmS i) (len := [lenS.getD i 0]) (byt := [bytS.getD i []]) (A := A)
        (fun j hj => by obtain rfl : j = 0 := by omega
                        exact len_S i hi)
        (fun j hj => hs _ (fl_ex i hi)) (fun j hj => hs _ (fl_co i hi)) (fun j hj => hs _ (fl_ar i hi))
        (fun j hj => by obtain rfl : j = 0 := by omega
                        exact hs _ (fl_le i hi))
        (fun j hj k hk => by obtain rfl : j = 0 := by omega
                             exact hs _ (fl_el i hi k hk))
        (fun j k hj hk hn => absurd (show j = k by omega) hn) hA
      refine ⟨(aK 0, aV 0), fun _ => ⟨⟨fun j hj => ?_, fun j k hj hk _ => by omega⟩, h2 0 (by omega)⟩⟩
      obtain rfl : j = 0 := by omega
      exact h1.1 0 hj
    · exact ⟨(0, 0), fun q => absurd q hi⟩
  obtain ⟨f, hf⟩ := Classical.axiomOfChoice h
  exact ⟨fun i => (f i).1, fun i => (f i).2, fun i hi => (hf i hi).1, fun i hi => (hf i hi).2⟩
theorem strQ_of {i : Nat} {q : String × Nat × String × List Int32} (hq : strS[i]? = some q) : i < 14 ∧ strQ i = q := by
  refine ⟨(List.getElem?_eq_some_iff.mp hq).1, ?_⟩
  unfold strQ
  rw [List.getD_eq_getElem?_getD, hq]
  rfl
theorem whole_start {p : Program} {e : Env} {s : State} {m : MethodId} {below : List Frame} {meth : Method} {c : Code} (l : Launch) (hflags : l.flags = flags0) {b L : Nat} {xs : Nat → Int32} (hL : L ≤ 2560) (C0 : lw_At p s m meth c b L xs) : W p l e room_1 s m #[Value.ref b] below meth c s.heap [] 0 0 (lw_Z below #[Value.ref b] s) (entryFrame m ([Value.ref b] : List Value).toArray 4) := by
  obtain ⟨hx, hb, hr, hml, hown, hts, hX, hbl, hlocks, hgv⟩ := id C0
  have hs := flat_of_before _ hgv
  have hA : ∀ a : Nat, a < s.heap.size → ¬ (fun q : Nat => s.heap.size ≤ q) a := fun a h => Nat.not_le.mpr h
  obtain ⟨dC, dI, hKc⟩ := cls_known hts
  obtain ⟨cI, cZ, cP, hKa⟩ := arr_known hts
  obtain ⟨adK, adV, hS1, hS2⟩ := str_known (A := fun q : Nat => s.heap.size ≤ q) hs hA
  have hF : FX (l, (dC, dI), (cI, cZ, cP), s.heap.size, adK, adV, (b, L, xs)) s s.heap := by
    refine ⟨hS1, fun i q hq => ?_, fun w hw => va_Nw.of (isSp_tab (List.mem_filter.mp hw).2) (hts w (List.mem_filter.mp hw).1), va_AO.of (hts (.arrayOver (.object "FastClock$Person")) (by decide +kernel)), ?_, ?_, fun q hq => va_Nc.of (hs _ (nc_in q hq)), hX, hbl, Nat.not_le.mpr hbl⟩
    · obtain ⟨hi, e⟩ := strQ_of hq
      have h2 := hS2 i hi
      unfold tmS at h2
      rw [e] at h2
      exact vk_R.of (hts _ (sr_in q (List.mem_of_getElem? hq))) h2
    · exact va_Zof (hts (.laysStatic "java/lang/String" "COMPACT_STRINGS" "Z") (by decide +kernel)) (hts (.initialized "java/lang/String") (by decide +kernel)) (va_eqt (hs (.eq (.static "java/lang/String" "COMPACT_STRINGS" "Z") (.int 1)) (by decide +kernel))) hA
    · exact va_Zqof (hts (.laysStatic "jdk/internal/util/Preconditions" "SIOOBE_FORMATTER" "Ljava/util/function/BiFunction;") (by decide +kernel)) (hts (.initialized "jdk/internal/util/Preconditions") (by decide +kernel)) (hs (.isRef (.static "jdk/internal/util/Preconditions" "SIOOBE_FORMATTER" "Ljava/util/function/BiFunction;")) (by decide +kernel)) hA
  have A : Act (l, (dC, dI), (cI, cZ, cP), s.heap.size, adK, adV, (b, L, xs)) "FastClockLaw" code 4 (some .boolean) false (p, e, s, m, #[Value.ref b], below, meth, c, lw_Z below #[Value.ref b] s) :=
    ⟨hx, hb, hr, hml, hown, fun w hw => hts w (List.mem_filter.mp hw).1, ⟨hKc, hKa⟩, hlocks, fun h => Bool.noConfusion h, Nat.le_refl _, hF⟩
  have hl := lv_entry ([.ref b]) (n := 4) (Nat.le_of_ble_eq_true rfl)
  rw [lg_entry_eq]
  generalize (lg_sl ([.ref b]) ++ List.replicate (4 - (lg_sl ([.ref b])).length) Slot.unset).toArray = ls at hl ⊢
  have hl : lv_has ls 4 [(0, .ref b)] := hl
  have hrun := law_run (X := (l, (dC, dI), (cI, cZ, cP), s.heap.size, adK, adV, (b, L, xs))) (Kn := fun _ _ => False) (Kb := fun _ _ => False) (Kc := fun _ _ => False) (Kr := fun rv _ => rv = some (.int 1)) hL (fun _ _ _ => rfl)
  refine F_law _ 0 0 _ A _ _ _ _ _ _ hrun (fun _ _ q => q.elim) (fun _ _ q => q.elim) (fun _ _ q => q.elim) ?_ s.heap [] ls (fun a e h => by cases h) rfl va_S.rf hl ⟨rfl, Nat.zero_le _, Nat.zero_le _⟩
  intro rv σ' hrv H locs hH' hn' hS' he' pc ls'
  subst hrv
  refine ⟨fun e1 => (by cases e1), fun v e1 e2 e3 => ?_, fun v e1 => (by cases e1), fun v e1 => (by cases e1)⟩
  cases e1
  exact va_forget (fun q hq => hS'.2.2 q hq) (W.widen (k := 600000) (n := 7302250) he'.1 he'.2 (lw_ret hx hb hr hlocks e3))
end START
