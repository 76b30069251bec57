section PARSE
/-! the parser, as functions of the tape c and its end e: where it is, is it wrong, the steps so far -/
abbrev PSt : Type := Nat × (Bool × List Int32)
def pHere (c : Nat → Int32) (e s : Nat) : Int32 := if s < e then c s else -nI 1
def pMust (c : Nat → Int32) (e : Nat) (x : Int32) (q : PSt) : PSt := if q.2.1 = true ∨ ¬ pHere c e q.1 = x then (q.1, (true, q.2.2)) else (q.1 + 1, (false, q.2.2))
def pSpell (c : Nat → Int32) (e : Nat) : List Int32 → PSt → PSt
  | [], q => q
  | x :: l, q => pSpell c e l (pMust c e x q)
def pDig (v : Int32) : Bool := isIn v (nI 48) (nI 57)
def pFig (c : Nat → Int32) (e : Nat) (q : PSt) : Int32 × PSt :=
  if q.2.1 = true ∨ pDig (pHere c e q.1) = false then (nI 0, (q.1, (true, q.2.2)))
  else if pDig (pHere c e (q.1 + 1)) = true ∧ nI 0 < pHere c e q.1 - nI 48 then (nI 10 * (pHere c e q.1 - nI 48) + pHere c e (q.1 + 1) - nI 48, (q.1 + 2, (false, q.2.2)))
  else (pHere c e q.1 - nI 48, (q.1 + 1, (false, q.2.2)))
/-- which of these comes next, from the k-th on -/
def pAmong (v : Int32) : List Int32 → Nat → Option Nat
  | [], _ => none
  | x :: l, k => if v = x then some k else pAmong v l (k + 1)
def pEmit (x : Int32) (q : PSt) : PSt := if q.2.1 = true then q else (q.1, (q.2.1, q.2.2 ++ [x]))
def pLoop (c : Nat → Int32) (e : Nat) (ch st : Int32) (f : PSt → PSt) : Nat → PSt → PSt
  | 0, q => q
  | n + 1, q => if q.2.1 = false ∧ pHere c e q.1 = ch then pLoop c e ch st f n (pEmit st (f (q.1 + 1, q.2))) else q
def pEvery (c : Nat → Int32) (e : Nat) (f : PSt → PSt) (q : PSt) : PSt := pLoop c e (nI 38) (-nI 2) f 101 (f q)
def pSome (c : Nat → Int32) (e : Nat) (f : PSt → PSt) (q : PSt) : PSt := pLoop c e (nI 124) (-nI 3) (pEvery c e f) 101 (pEvery c e f q)
def lPkv : List Int32 := [112, 107, 118, 99, 100, 115]
def lCmp : List Int32 := [60, 61, 62]
/-- one test -/
def pTest (c : Nat → Int32) (e : Nat) (q : PSt) : PSt :=
  match pAmong (pHere c e q.1) lPkv 0 with
  | none => (q.1, (true, q.2.2))
  | some a => match pAmong (pHere c e (q.1 + 1)) lCmp 0 with
    | none => (q.1 + 1, (true, q.2.2))
    | some b => pEmit (nI a + nI 8 * nI b + nI 32 * (pFig c e (q.1 + 2, q.2)).1) (pFig c e (q.1 + 2, q.2)).2
/-- a factor; so many levels may still be opened, and one more that is wrong -/
def pFac (c : Nat → Int32) (e : Nat) : Nat → PSt → PSt
  | 0, q => q
  | m + 1, q => if q.2.1 = true then q
    else if pHere c e q.1 = nI 33 then pEmit (-nI 1) (pFac c e m (if m = 0 then (q.1, (true, q.2.2)) else (q.1 + 1, q.2)))
    else if pHere c e q.1 = nI 40 then pMust c e (nI 41) (pSome c e (pFac c e m) (if m = 0 then (q.1, (true, q.2.2)) else (q.1 + 1, q.2)))
    else pTest c e q
/-- what a piece of the parser keeps: it goes on, not beyond the end, and each step comes of a sign of its own -/
def pOK (e : Nat) (q q' : PSt) : Prop := q.1 ≤ q'.1 ∧ (q.1 ≤ e → q'.1 ≤ e) ∧ q'.2.2.length + q.1 ≤ q.2.2.length + q'.1
theorem pOK.rfl' {e : Nat} {q : PSt} : pOK e q q := ⟨Nat.le_refl _, id, Nat.le_refl _⟩
theorem pOK.trans {e : Nat} {a b c : PSt} (h1 : pOK e a b) (h2 : pOK e b c) : pOK e a c := ⟨Nat.le_trans h1.1 h2.1, fun q => h2.2.1 (h1.2.1 q), by have := h1.2.2; have := h2.2.2; omega⟩
section PL
variable {c : Nat → Int32} {e : Nat}
theorem pHere_lt {s : Nat} {x : Int32} (h : pHere c e s = x) (hx : ¬ x = -nI 1) : s < e := by
  unfold pHere at h
  by_cases q : s < e
  · exact q
  · rw [if_neg q] at h; exact absurd h.symm hx
theorem pMust_ok {x : Int32} {q : PSt} (hx : ¬ x = -nI 1) : pOK e q (pMust c e x q) := by
  unfold pMust
  split
  · exact ⟨Nat.le_refl _, id, Nat.le_refl _⟩
  · rename_i h
    have h2 : pHere c e q.1 = x := Classical.byContradiction (fun w => h (Or.inr w))
    have := pHere_lt h2 hx
    exact ⟨Nat.le_succ _, fun _ => this, by dsimp only; omega⟩
theorem pSpell_ok : ∀ {l : List Int32} {q : PSt}, (∀ x, x ∈ l → ¬ x = -nI 1) → pOK e q (pSpell c e l q)
  | [], _, _ => pOK.rfl'
  | x :: l, q, h => (pMust_ok (h x (List.mem_cons_self ..))).trans (pSpell_ok (fun y hy => h y (List.mem_cons_of_mem _ hy)))
theorem pDig_ne {v : Int32} (h : pDig v = true) : ¬ v = -nI 1 := by
  intro q; rw [q] at h; revert h; decide
theorem pFig_ok {q : PSt} : pOK e q (pFig c e q).2 := by
  unfold pFig
  split
  · exact ⟨Nat.le_refl _, id, Nat.le_refl _⟩
  · rename_i h
    have h1 : pDig (pHere c e q.1) = true := by
      cases hq : pDig (pHere c e q.1) with
      | true => rfl
      | false => exact absurd (Or.inr hq) h
    have l1 := pHere_lt (c := c) (e := e) (s := q.1) rfl (pDig_ne h1)
    split
    · rename_i h2
      have l2 := pHere_lt (c := c) (e := e) (s := q.1 + 1) rfl (pDig_ne h2.1)
      exact ⟨by dsimp only; omega, fun _ => by dsimp only; omega, by dsimp only; omega⟩
    · exact ⟨by dsimp only; omega, fun _ => by dsimp only; omega, by dsimp only; omega⟩
/-- one sign, and then perhaps a step -/
theorem pEmit_ok {x : Int32} {q q' : PSt} (h : pOK e (q.1 + 1, q.2) q') (hl : q.1 < e) : pOK e q (pEmit x q') := by
  obtain ⟨h1, h2, h3⟩ := h
  dsimp only at h1 h2 h3
  unfold pEmit
  split
  · exact ⟨by omega, fun _ => h2 hl, by omega⟩
  · exact ⟨by dsimp only; omega, fun _ => h2 hl, by dsimp only; rw [List.length_append]; simp only [List.length_cons, List.length_nil]; omega⟩
theorem pLoop_ok {ch st : Int32} {f : PSt → PSt} (hch : ¬ ch = -nI 1) (hf : ∀ q, pOK e q (f q)) : ∀ {n : Nat} {q : PSt}, pOK e q (pLoop c e ch st f n q)
  | 0, _ => pOK.rfl'
  | n + 1, q => by
    show pOK e q (if q.2.1 = false ∧ pHere c e q.1 = ch then pLoop c e ch st f n (pEmit st (f (q.1 + 1, q.2))) else q)
    split
    · rename_i h
      exact (pEmit_ok (hf _) (pHere_lt h.2 hch)).trans (pLoop_ok hch hf)
    · exact pOK.rfl'
theorem pEvery_ok {f : PSt → PSt} (hf : ∀ q, pOK e q (f q)) {q : PSt} : pOK e q (pEvery c e f q) := (hf q).trans (pLoop_ok (by decide) hf)
theorem pSome_ok {f : PSt → PSt} (hf : ∀ q, pOK e q (f q)) {q : PSt} : pOK e q (pSome c e f q) := (pEvery_ok hf).trans (pLoop_ok (by decide) (fun _ => pEvery_ok hf))
theorem pAmong_mem {v : Int32} : ∀ {l : List Int32} {k a : Nat}, pAmong v l k = some a → v ∈ l
  | [], _, _, h => by cases h
  | x :: l, k, a, h => by
    have h : (if v = x then some k else pAmong v l (k + 1)) = some a := h
    by_cases q : v = x
    · rw [q]; exact List.mem_cons_self ..
    · rw [if_neg q] at h
      exact List.mem_cons_of_mem _ (pAmong_mem h)
theorem pTest_ok {q : PSt} : pOK e q (pTest c e q) := by
  unfold pTest
  cases h1 : pAmong (pHere c e q.1) lPkv 0 with
  | none => exact ⟨Nat.le_refl _, id, Nat.le_refl _⟩
  | some a =>
    have l1 : q.1 < e := pHere_lt (c := c) (e := e) (s := q.1) rfl (fun w => by have := pAmong_mem h1; rw [w] at this; revert this; decide)
    cases h2 : pAmong (pHere c e (q.1 + 1)) lCmp 0 with
    | none => exact ⟨by dsimp only; omega, fun _ => by dsimp only; omega, by dsimp only; omega⟩
    | some b =>
      have l2 : q.1 + 1 < e := pHere_lt (c := c) (e := e) (s := q.1 + 1) rfl (fun w => by have := pAmong_mem h2; rw [w] at this; revert this; decide)
      refine pEmit_ok ?_ l1
      have := pFig_ok (c := c) (e := e) (q := (q.1 + 2, q.2))
      refine pOK.trans ?_ this
      exact ⟨by dsimp only; omega, fun _ => by dsimp only; omega, by dsimp only; omega⟩
theorem pFac_ok : ∀ {m : Nat} {q : PSt}, pOK e q (pFac c e m q)
  | 0, _ => pOK.rfl'
  | m + 1, q => by
    unfold pFac
    split
    · exact pOK.rfl'
    · split
      · rename_i h
        have l1 := pHere_lt h (by decide)
        by_cases hm : m = 0
        · rw [if_pos hm]
          subst hm
          show pOK e q (pEmit (-nI 1) (q.1, (true, q.2.2)))
          exact ⟨Nat.le_refl _, id, Nat.le_refl _⟩
        · rw [if_neg hm]
          exact pEmit_ok pFac_ok l1
      · split
        · rename_i h
          have l1 := pHere_lt h (by decide)
          refine pOK.trans ?_ (pMust_ok (by decide))
          refine pOK.trans ?_ (pSome_ok (fun _ => pFac_ok))
          split
          · exact ⟨Nat.le_refl _, id, Nat.le_refl _⟩
          · exact ⟨by dsimp only; omega, fun _ => l1, by dsimp only; omega⟩
        · exact pTest_ok
end PL
end PARSE
