section PR5
variable {c : Nat → Int32} {e : Nat}
/-- steps that put one truth on the pile, of so many places -/
def EX (D : Nat) (M : List Int32) : Prop := (∀ x, x ∈ M → -10 < x) ∧ ∀ k rest, k + D ≤ 18 → okQ (k + 1) rest → okQ k (M ++ rest)
/-- steps that leave one truth where one was -/
def TX (D : Nat) (M : List Int32) : Prop := (∀ x, x ∈ M → -10 < x) ∧ ∀ k rest, k + D ≤ 18 → okQ (k + 1) rest → okQ (k + 1) (M ++ rest)
def PG (D : Nat) (f : PSt → PSt) : Prop := ∀ q, (f q).2.1 = false → q.2.1 = false ∧ ∃ M, (f q).2.2 = q.2.2 ++ M ∧ EX D M
theorem EX.up {D D' : Nat} {M : List Int32} (h : EX D M) (hd : D ≤ D') : EX D' M := ⟨h.1, fun k rest hk => h.2 k rest (by omega)⟩
theorem EX_TX {D D' : Nat} {M N : List Int32} (h : EX D M) (h2 : TX D' N) (hd : D ≤ D') : EX D' (M ++ N) :=
  ⟨fun x hx => (List.mem_append.mp hx).elim (h.1 x) (h2.1 x), fun k rest hk hr => by rw [List.append_assoc]; exact h.2 k _ (by omega) (h2.2 k rest hk hr)⟩
theorem TX_nil {D : Nat} : TX D [] := ⟨fun x hx => absurd hx (List.not_mem_nil), fun k rest _ hr => hr⟩
theorem pEmit_f {x : Int32} {q : PSt} (h : (pEmit x q).2.1 = false) : q.2.1 = false ∧ (pEmit x q).2.2 = q.2.2 ++ [x] := by
  unfold pEmit at h ⊢
  by_cases w : q.2.1 = true
  · rw [if_pos w] at h; rw [w] at h; cases h
  · rw [if_neg w]; exact ⟨by simpa using w, rfl⟩
theorem pMust_f {x : Int32} {q : PSt} (h : (pMust c e x q).2.1 = false) : q.2.1 = false := by
  unfold pMust at h
  by_cases w : q.2.1 = true
  · rw [if_pos (Or.inl w)] at h; cases h
  · simpa using w
theorem pFig_f {q : PSt} (h : (pFig c e q).2.2.1 = false) : q.2.1 = false := by
  by_cases w : q.2.1 = true
  · unfold pFig at h; rw [if_pos (Or.inl w)] at h; cases h
  · simpa using w
theorem pLoop_PG {ch st : Int32} (hst : st = -2 ∨ st = -3) {f : PSt → PSt} {D : Nat} (hf : PG D f) : ∀ n q, (pLoop c e ch st f n q).2.1 = false → q.2.1 = false ∧ ∃ M, (pLoop c e ch st f n q).2.2 = q.2.2 ++ M ∧ TX (D + 1) M
  | 0, q, h => ⟨h, [], (List.append_nil _).symm, TX_nil⟩
  | n + 1, q, h => by
    by_cases z : q.2.1 = false ∧ pHere c e q.1 = ch
    · have e1 : pLoop c e ch st f (n + 1) q = pLoop c e ch st f n (pEmit st (f (q.1 + 1, q.2))) := if_pos z
      rw [e1] at h ⊢
      obtain ⟨h1, M, h2, h3⟩ := pLoop_PG hst hf n _ h
      obtain ⟨h4, h5⟩ := pEmit_f h1
      obtain ⟨h6, N, h7, h8⟩ := hf _ h4
      refine ⟨z.1, N ++ (st :: M), ?_, ?_⟩
      · rw [h2, h5, h7]; simp
      · refine ⟨fun x hx => ?_, fun k rest hk hr => ?_⟩
        · rcases List.mem_append.mp hx with y | y
          · exact h8.1 x y
          · rcases List.mem_cons.mp y with y | y
            · subst y; rcases hst with rfl | rfl <;> decide
            · exact h3.1 x y
        · rw [List.append_assoc]
          refine h8.2 (k + 1) _ (by omega) ?_
          exact Or.inr (Or.inr (Or.inl ⟨hst, by omega, h3.2 k rest hk hr⟩))
    · have e1 : pLoop c e ch st f (n + 1) q = q := if_neg z
      rw [e1] at h ⊢
      exact ⟨h, [], (List.append_nil _).symm, TX_nil⟩
theorem pEvery_PG {f : PSt → PSt} {D : Nat} (hf : PG D f) : PG (D + 1) (pEvery c e f) := fun q h => by
  obtain ⟨h1, M, h2, h3⟩ := pLoop_PG (Or.inl (by decide)) hf 101 (f q) h
  obtain ⟨h4, N, h5, h6⟩ := hf q h1
  exact ⟨h4, N ++ M, by unfold pEvery; rw [h2, h5, List.append_assoc], EX_TX h6 h3 (by omega)⟩
theorem pSome_PG {f : PSt → PSt} {D : Nat} (hf : PG D f) : PG (D + 2) (pSome c e f) := fun q h => by
  obtain ⟨h1, M, h2, h3⟩ := pLoop_PG (Or.inr (by decide)) (pEvery_PG hf) 101 (pEvery c e f q) h
  obtain ⟨h4, N, h5, h6⟩ := pEvery_PG (c := c) (e := e) hf q h1
  exact ⟨h4, N ++ M, by unfold pSome; rw [h2, h5, List.append_assoc], EX_TX h6 h3 (by omega)⟩
theorem pTest_PG (X : WX) (hC : ∀ j, ∃ m, m < 128 ∧ c j = nI m) : PG 1 (pTest c e) := fun q h => by
  cases hp : pAmong (pHere c e q.1) lPkv 0 with
  | none => rw [pTest_0 hp] at h; cases h
  | some j =>
    cases hp2 : pAmong (pHere c e (q.1 + 1)) lCmp 0 with
    | none => rw [pTest_1 hp hp2] at h; cases h
    | some k =>
      rw [pTest_2 hp hp2] at h ⊢
      have hj := pAmong_lt hp
      have hk := pAmong_lt hp2
      have hj6 : j < 6 := by have := hj.2; simpa [lPkv] using this
      have hk3 : k < 3 := by have := hk.2; simpa [lCmp] using this
      obtain ⟨h1, h2⟩ := pEmit_f h
      have h3 := pFig_f h1
      rcases pFig_val (h := fun _ => some (iA X 100 c)) (X := X) (tx := 0) (a := 1) (c := c) (e := e) (q := (q.1 + 2, q.2)) ⟨rfl, Or.inl (by omega), hC⟩ h3 with w | ⟨w, v, hv, hvv⟩
      · rw [w] at h1; cases h1
      · have hx : nI j + nI 8 * nI k + nI 32 * nI v = nI (j + 8 * k + 32 * v) := by rw [nI_mulN, nI_mulN, nI_add, nI_add]
        refine ⟨h3, [nI (j + 8 * k + 32 * v)], ?_, ?_, ?_⟩
        · rw [h2, hvv, hx, pFig_L]
        · intro x hx2
          rw [List.mem_singleton.mp hx2]
          exact (stp_t (by omega)).2
        · intro n rest hn hr
          exact Or.inl ⟨j + 8 * k + 32 * v, rfl, by omega, by omega, by omega, by omega, hr⟩
theorem EX_not {D : Nat} {M : List Int32} (h : EX D M) : EX D (M ++ [-1]) := by
  refine ⟨fun x hx => ?_, fun k rest hk hr => ?_⟩
  · rcases List.mem_append.mp hx with y | y
    · exact h.1 x y
    · rw [List.mem_singleton.mp y]; decide
  · rw [List.append_assoc]
    exact h.2 k _ hk (Or.inr (Or.inl ⟨rfl, by omega, hr⟩))
theorem pFac_PG (X : WX) (hC : ∀ j, ∃ m, m < 128 ∧ c j = nI m) : ∀ m, PG (2 * m + 1) (pFac c e (m + 1))
  | 0 => fun q h => by
    cases w : q.2.1 with
    | true =>
      have : pFac c e 1 q = q := if_pos w
      rw [this, w] at h; cases h
    | false =>
      rw [pFac_1 w] at h ⊢
      obtain ⟨h1, M, h2, h3⟩ := pTest_PG X hC q h
      exact ⟨rfl, M, h2, h3⟩
  | m + 1 => fun q h => by
    have ih := pFac_PG X hC m
    cases w : q.2.1 with
    | true =>
      have : pFac c e (m + 2) q = q := if_pos w
      rw [this, w] at h; cases h
    | false =>
      have e0 : pFac c e (m + 1 + 1) q = if pHere c e q.1 = nI 33 then pEmit (-nI 1) (pFac c e (m + 1) (q.1 + 1, q.2)) else if pHere c e q.1 = nI 40 then pMust c e (nI 41) (pSome c e (pFac c e (m + 1)) (q.1 + 1, q.2)) else pTest c e q := if_neg (by rw [w]; exact Bool.noConfusion)
      rw [e0] at h ⊢
      by_cases c1 : pHere c e q.1 = nI 33
      · rw [if_pos c1] at h ⊢
        obtain ⟨h1, h2⟩ := pEmit_f h
        obtain ⟨h3, M, h4, h5⟩ := ih _ h1
        exact ⟨rfl, M ++ [-1], by rw [h2, h4, List.append_assoc]; rfl, (EX_not h5).up (by omega)⟩
      · rw [if_neg c1] at h ⊢
        by_cases c2 : pHere c e q.1 = nI 40
        · rw [if_pos c2] at h ⊢
          have h1 := pMust_f h
          obtain ⟨h3, M, h4, h5⟩ := pSome_PG (c := c) (e := e) ih _ h1
          exact ⟨rfl, M, by rw [pMust_L, h4], h5.up (by omega)⟩
        · rw [if_neg c2] at h ⊢
          obtain ⟨h3, M, h4, h5⟩ := pTest_PG X hC q h
          exact ⟨rfl, M, h4, h5.up (by omega)⟩
theorem pTests_PG (X : WX) (hC : ∀ j, ∃ m, m < 128 ∧ c j = nI m) : PG 13 (pTests c e) := pSome_PG (pFac_PG X hC 5)
theorem cE_len : ∀ {L : List Int32} {k : Nat}, (cE k L).length = (L.filter (fun x => !decide (-10 < x))).length
  | [], _ => rfl
  | x :: L, k => by
    show (if -10 < x then cE (k + 1) L else (minu x, k) :: cE k L).length = _
    by_cases q : -10 < x
    · rw [if_pos q, cE_len, List.filter_cons, if_neg (by simp [q])]
    · rw [if_neg q, List.length_cons, cE_len, List.filter_cons, if_pos (by simp [q]), List.length_cons]
theorem fil_no {M : List Int32} (h : ∀ x, x ∈ M → -10 < x) : M.filter (fun x => !decide (-10 < x)) = [] := List.filter_eq_nil_iff.mpr (fun x hx => by simp [h x hx])
theorem noEnd_ok (X : WX) (hC : ∀ j, ∃ m, m < 128 ∧ c j = nI m) : noEnd c e := fun q h => by
  obtain ⟨h1, M, h2, h3⟩ := pTests_PG X hC q h
  rw [h2, cE_len, cE_len, List.filter_append, fil_no h3.1, List.append_nil]
/-- a clause adds steps that stand alone, and one end at most -/
def CG (L L' : List Int32) : Prop := ∃ M, L' = L ++ M ∧ (M.filter (fun x => !decide (-10 < x))).length ≤ 1 ∧ ∀ rest, okQ 0 rest → okQ 0 (M ++ rest)
theorem pMuch_CG (X : WX) (hC : ∀ j, ∃ m, m < 128 ∧ c j = nI m) {k : Int32} (hk : k = -nI 10 ∨ k = -nI 200) {l : List Int32} {q : PSt} (h : (pMuch c e k l q).2.1 = false) : CG q.2.2 (pMuch c e k l q).2.2 := by
  unfold pMuch at h ⊢
  obtain ⟨h1, h2⟩ := pEmit_f h
  obtain ⟨h3, M, h4, h5⟩ := pTests_PG X hC _ h1
  have h6 := pMust_f h3
  have h7 := pFig_f h6
  rcases pFig_val (h := fun _ => some (iA X 100 c)) (X := X) (tx := 0) (a := 1) (c := c) (e := e) (q := pSpell c e l q) ⟨rfl, Or.inl (by omega), hC⟩ h7 with w | ⟨w, v, hv, hvv⟩
  · rw [w] at h6; cases h6
  · refine ⟨M ++ [k - nI v], ?_, ?_, ?_⟩
    · rw [h2, h4, pMust_L, pFig_L, pSpell_L, hvv, List.append_assoc]
    · rw [List.filter_append, fil_no h5.1, List.nil_append]
      exact List.length_filter_le _ _
    · intro rest hr
      rw [List.append_assoc]
      refine h5.2 0 _ (by omega) (Or.inr (Or.inr (Or.inr ⟨v, hv, ?_, rfl, hr⟩)))
      exact hk.imp (fun y => by rw [y]; rfl) (fun y => by rw [y]; rfl)
theorem CG_nil {L : List Int32} : CG L L := ⟨[], (List.append_nil _).symm, Nat.zero_le _, fun _ h => h⟩
theorem pTell_L {l : List Int32} {q : PSt} : (pTell c e l q).2.2.2 = q.2.2 := by unfold pTell; rw [pFig_L, pSpell_L]
theorem pClause_CG (X : WX) {α : Nat} {z : (Nat → Int32) × PSt} (hC : ∀ j, ∃ m, m < 128 ∧ tape z.1 j = nI m) (h : (pClause α e z).2.2.1 = false) : CG z.2.2.2 (pClause α e z).2.2.2 := by
  unfold pClause at h ⊢
  split
  · show CG _ (pTell _ _ _ _).2.2.2; rw [pTell_L]; exact CG_nil
  · split
    · show CG _ (pTell _ _ _ _).2.2.2; rw [pTell_L]; exact CG_nil
    · rename_i n1 n2
      rw [if_neg n1, if_neg n2] at h
      split
      · rename_i n3
        rw [if_pos n3] at h
        exact pMuch_CG X hC (Or.inr rfl) h
      · rename_i n3
        rw [if_neg n3] at h
        split
        · rename_i n4
          rw [if_pos n4] at h
          exact pMuch_CG X hC (Or.inl rfl) h
        · exact CG_nil
end PR5
