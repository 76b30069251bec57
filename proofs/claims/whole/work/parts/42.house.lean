section HOUSE
variable {X : WX} {d : Nat} {h : HM} {i : Nat → Int32} {S I F B T : Nat → Int32} {r : Nat → Nat → Int32} {K : Option Value → HM → Prop} {a e : Nat}
theorem pTell_ok {c : Nat → Int32} {l : List Int32} {q : PSt} (hl : ∀ x, x ∈ l → ¬ x = -nI 1) : pOK e q (pTell c e l q).2 := (pSpell_ok hl).trans pFig_ok
theorem pMuch_ok {c : Nat → Int32} {k x : Int32} {l : List Int32} {q : PSt} (hx : ¬ x = -nI 1) (hl : ∀ y, y ∈ l → ¬ y = -nI 1) (hh : pHere c e q.1 = x) (hw : q.2.1 = false) : pOK e q (pMuch c e k (x :: l) q) := by
  obtain ⟨s, w, L⟩ := q
  have hw : w = false := hw
  subst hw
  have hh : pHere c e s = x := hh
  have e1 : pSpell c e (x :: l) (s, (false, L)) = pSpell c e l (s + 1, (false, L)) := by
    show pSpell c e l (pMust c e x (s, (false, L))) = _
    rw [show pMust c e x (s, (false, L)) = (s + 1, (false, L)) from if_neg (fun z => z.elim (fun z => Bool.noConfusion z) (fun z => z hh))]
  unfold pMuch
  refine pEmit_ok ?_ (pHere_lt hh hx)
  rw [e1]
  exact (((pSpell_ok hl).trans pFig_ok).trans (pMust_ok (by decide))).trans pTests_ok
theorem pClause_ok {z : (Nat → Int32) × PSt} (hw : z.2.2.1 = false) : pOK e z.2 (pClause a e z).2 := by
  unfold pClause
  split
  · exact pTell_ok (by decide)
  · split
    · exact pTell_ok (by decide)
    · split
      · rename_i h3
        exact pMuch_ok (by decide) (by decide) h3 hw
      · split
        · rename_i h4
          exact pMuch_ok (by decide) (by decide) h4 hw
        · exact ⟨Nat.le_refl _, id, Nat.le_refl _⟩
theorem tape_pTellS {w : Nat} {l : List Int32} {z : (Nat → Int32) × PSt} (hw : 200 ≤ w) : tape (pTellS a w e l z).1 = tape z.1 := by
  unfold pTellS
  dsimp only
  split
  · rfl
  · exact tape_upd (by omega)
theorem tape_pClause {z : (Nat → Int32) × PSt} : tape (pClause a e z).1 = tape z.1 := by
  unfold pClause
  split
  · exact tape_pTellS (by omega)
  · split
    · exact tape_pTellS (by omega)
    · split
      · rfl
      · split <;> rfl
/-- the clauses behind the first -/
def pCl (a e : Nat) : Nat → (Nat → Int32) × PSt → (Nat → Int32) × PSt
  | 0, z => z
  | n + 1, z => if z.2.2.1 = false ∧ pHere (tape z.1) e z.2.1 = nI 59 then pCl a e n (pClause a e (z.1, (z.2.1 + 1, z.2.2))) else z
/-- the row as a house begins to be read -/
def hS (S : Nat → Int32) (a : Nat) : Nat → Int32 := upd (upd (upd (upd S 16 (nI 0)) (200 + a) (nI 3)) (205 + a) (nI 1)) (210 + a) (nI 0)
def hEnd (S : Nat → Int32) : (Nat → Int32) × PSt := pCl (ix (S 12)) (ix (S 16)) 9 (pClause (ix (S 12)) (ix (S 16)) (hS S (ix (S 12)), (0, (false, []))))
def fHouse (S : Nat → Int32) : Int32 × (Nat → Int32) := if S 12 = nI 5 then (-nI 4, S) else if (hEnd S).2.2.1 = true ∨ ¬ (hEnd S).2.1 = ix (S 16) then (-nI 10 - nI (hEnd S).2.1, pS (hEnd S).1 (ix (S 12)) (hEnd S).2.2.2) else (S 12, upd (upd (pS (hEnd S).1 (ix (S 12)) (hEnd S).2.2.2) 12 (S 12 + nI 1)) 17 (S 12))
theorem hS_0 {a : Nat} : pS (hS S a) a [] = hS S a := by
  funext j
  unfold pS
  rw [if_neg (by simp only [List.length_nil]; omega)]
  by_cases q : j = 210 + a
  · rw [if_pos q, q]; unfold hS; rw [upd_s]; rfl
  · rw [if_neg q]
end HOUSE
