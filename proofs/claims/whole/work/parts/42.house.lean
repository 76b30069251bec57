section HOUSE
variable {X : WX} {d : Nat} {h : HM} {i : Nat → Int32} {S I F B T : Nat → Int32} {r : Nat → Nat → Int32} {K : Option Value → HM → Prop} {a e : Nat}
theorem pTell_ok {c : Nat → Int32} {l : List Int32} {q : PSt} (hl : ∀ x, x ∈ l → ¬ x = -nI 1) : pOK e q (pTell c e l q).2 := (pSpell_ok hl).trans pFig_ok
theorem pMuch_ok {c : Nat → Int32} {k : Int32} {x : Int32} {l : List Int32} {q : PSt} (hx : ¬ x = -nI 1) (hl : ∀ y, y ∈ l → ¬ y = -nI 1) (hh : pHere c e q.1 = x) (hw : q.2.1 = false) : pOK e q (pTests c e (pMust c e (nI 32) (pFig c e (pSpell c e (x :: l) q)).2)) := by
  have s1 := pSpell_ok (c := c) (e := e) (l := x :: l) (q := q) (fun y hy => by
    rcases List.mem_cons.mp hy with rfl | hy
    · exact hx
    · exact hl y hy)
  exact ((s1.trans pFig_ok).trans (pMust_ok (by decide))).trans pTests_ok
theorem tape_pTellS {w : Nat} {l : List Int32} {z : (Nat → Int32) × PSt} (hw : 200 ≤ w) : tape (pTellS a w e l z).1 = tape z.1 := by
  unfold pTellS
  dsimp only
  split
  · rfl
  · exact tape_upd (by omega)
theorem tape_pClause {z : (Nat → Int32) × PSt} : tape (pClause a e z).1 = tape z.1 := by
  unfold pClause
  split
  · exact tape_pTellS (by omega)
  · split
    · exact tape_pTellS (by omega)
    · split
      · rfl
      · split <;> rfl
end HOUSE
