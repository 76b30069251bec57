section GLUE3
variable {X : WX} {own : String} {cc : ByteArray} {nL : Nat} {rt : Option FieldType} {ini : Bool} {R : Room} {k pc p1 p2 p3 q1 pt pf pb pq pe : Nat}
/-- if (a || b) continue: the first jumps on at once -/
theorem s_ifcnt {a b : EC} {off : Int} (h1 : FEC X own cc nL rt ini R 0 pc pq p1 a) (h2 : FEC X own cc nL rt ini R 0 p1 p2 pf b) (hd : decode cc p2 = .ok (.goto off, 3)) (ht : (p2 : Int) + off = (pq : Int)) : FS X own cc nL rt ini R pc pf pb pq (sIf (cOr a b) sCnt sSkip) := by
  intro r A env σ Kn Kb Kc Kr hf g1 g2 g3 g4
  refine h1 r A env σ [] _ _ (Nat.le_refl 0) hf (fun σ1 z => g3 _ _ z) (fun σ1 z => ?_)
  refine h2 r A env σ1 [] _ _ (Nat.le_refl 0) z (fun σ2 z2 => ?_) (fun σ2 z2 => g1 _ _ z2)
  intro H locs ls hH hn hS hl he
  exact lv_goto A.1 A.2.1 hd ht (g3 _ _ z2 H locs ls hH hn hS hl he)
theorem c_gtl_t {f g : EL} {off : Int} {tgt : Nat} (h1 : FEL X own cc nL rt ini R k pc p1 f) (h2 : FEL X own cc nL rt ini R (k + 2) p1 p2 g) (hd0 : decode cc p2 = .ok (.lcmp, 1)) (hd : decode cc (p2 + 1) = .ok (.ifCond .gt off, 3)) (ht : ((p2 + 1 : Nat) : Int) + off = (tgt : Int)) : FEC X own cc nL rt ini R k pc tgt (p2 + 1 + 3) (cGtL f g) := by
  intro r A env σ st Kt Kf hk hf g1 g2
  refine h1 r A env σ st _ hk hf (fun x σ1 hx => ?_)
  refine h2 r A env σ1 (.long x :: st) _ (cats_l hk) hx (fun y σ2 hy => ?_)
  intro H locs ls hH hn hS hl he
  refine W.lcmp A.1 A.2.1 hd0 ?_
  exact lv_if_gt A.1 A.2.1 hd ht (fun c => g1 _ (hy.1 ((lg_gt x y).mp c)) H locs ls hH hn hS hl he) (fun c => g2 _ (hy.2 (fun h => c ((lg_gt x y).mpr h))) H locs ls hH hn hS hl he)
theorem c_ltl_t {f g : EL} {off : Int} {tgt : Nat} (h1 : FEL X own cc nL rt ini R k pc p1 f) (h2 : FEL X own cc nL rt ini R (k + 2) p1 p2 g) (hd0 : decode cc p2 = .ok (.lcmp, 1)) (hd : decode cc (p2 + 1) = .ok (.ifCond .lt off, 3)) (ht : ((p2 + 1 : Nat) : Int) + off = (tgt : Int)) : FEC X own cc nL rt ini R k pc tgt (p2 + 1 + 3) (cLtL f g) := by
  intro r A env σ st Kt Kf hk hf g1 g2
  refine h1 r A env σ st _ hk hf (fun x σ1 hx => ?_)
  refine h2 r A env σ1 (.long x :: st) _ (cats_l hk) hx (fun y σ2 hy => ?_)
  intro H locs ls hH hn hS hl he
  refine W.lcmp A.1 A.2.1 hd0 ?_
  exact lv_if_lt A.1 A.2.1 hd ht (fun c => g1 _ (hy.1 ((lg_lt x y).mp c)) H locs ls hH hn hS hl he) (fun c => g2 _ (hy.2 (fun h => c ((lg_lt x y).mpr h))) H locs ls hH hn hS hl he)
end GLUE3
