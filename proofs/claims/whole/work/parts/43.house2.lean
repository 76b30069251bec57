section HOUSE2
variable {X : WX} {d : Nat} {h : HM} {i : Nat → Int32} {S I F B T : Nat → Int32} {r : Nat → Nat → Int32} {K : Option Value → HM → Prop} {a e : Nat}
theorem pCl_no {n : Nat} {z : (Nat → Int32) × PSt} (hz : ¬ (z.2.2.1 = false ∧ pHere (tape z.1) e z.2.1 = nI 59)) : pCl a e n z = z := by
  cases n with
  | zero => rfl
  | succ n => exact if_neg hz
theorem pI_0 {w : Int32} : upd (upd (upd (upd (upd i 5 (nI a)) 7 (nI e)) 6 (nI 0)) 8 (nI 0)) 9 (nI 0) = pI (upd (upd i 5 (nI a)) 7 (nI e)) 0 (0, (false, [])) := rfl
theorem pClause_w {z : (Nat → Int32) × PSt} (hw : z.2.1 ≤ e) (hf : z.2.2.1 = false) : (pClause a e z).2.1 ≤ e := (pClause_ok hf).2.1 hw
end HOUSE2
