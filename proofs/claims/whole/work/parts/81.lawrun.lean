section LAWRUN
variable {X : WX} {nx : Nat}
/-- the law's locals -/
def E (X : WX) (p : Nat) : Lc := [some (.ref X.2.2.2.2.2.2.1), some (.ref (bA X)), some (.ref (mB X)), some (.int (nI p))]
theorem LI_on {H : HM} (h : LI X H nx) : onO (H (bA X)) (fun c _ => c = 0) := by
  obtain ⟨P, Q, dh, st, nt, t, im, S, w, i, I, F, B, T, r, rfl, hC⟩ := h
  refine Eq.mpr (onO_h (c := 0) (fs := ffs X im) ?_) rfl
  unfold MH
  rw [if_neg (by unfold mB bA; omega)]
  exact CH_F
theorem arm_I {a : EA} {as : List Value} {env : Lc} {σ : AH} {MC MM : MD} {Kn Kb Kc : KN} {Kr : KR} (he1 : env[1]? = some (some (.ref (bA X)))) (he2 : env[2]? = some (some (.ref (mB X)))) (ha : ∀ (σ' : AH) (K : List Value → AH → Prop), K as σ' → a env σ' K) (hL : LI X σ.1 σ.2.1) (hB : ∀ {H n}, LI X H n → CALL X MC 1000 (.ref (bA X) :: as) H (BK2 X Value.int MM as n)) (hK : ∀ h', LI X h' σ.2.1 → Kb env (h', σ.2)) : (sIf (cNot (cEq (kI (kV X MC 1000 0 (xr 1) a)) (kI (kV X MM 1000 12 (xr 2) a)))) (sRetZ (xc 0)) sBrk) env σ Kn Kb Kc Kr := by
  unfold sIf cNot cEq kI kV xr
  simp only [he1, he2]
  refine ha _ _ ⟨LI_on hL, (hB hL).weaken (fun rv h1 hb => ?_)⟩
  obtain ⟨n, rfl, g1, g2⟩ := hb
  refine ha _ _ ⟨g1, g2.weaken (fun rv2 h2 hb2 => ?_)⟩
  obtain ⟨rfl, hl⟩ := hb2
  exact ⟨fun _ => hK h2 hl, fun z => absurd rfl z⟩
theorem arm_L {a : EA} {as : List Value} {env : Lc} {σ : AH} {MC MM : MD} {Kn Kb Kc : KN} {Kr : KR} (he1 : env[1]? = some (some (.ref (bA X)))) (he2 : env[2]? = some (some (.ref (mB X)))) (ha : ∀ (σ' : AH) (K : List Value → AH → Prop), K as σ' → a env σ' K) (hL : LI X σ.1 σ.2.1) (hB : ∀ {H n}, LI X H n → CALL X MC 1000 (.ref (bA X) :: as) H (BK2 X Value.long MM as n)) (hK : ∀ h', LI X h' σ.2.1 → Kb env (h', σ.2)) : (sIf (cNot (cEqL (kL (kV X MC 1000 0 (xr 1) a)) (kL (kV X MM 1000 12 (xr 2) a)))) (sRetZ (xc 0)) sBrk) env σ Kn Kb Kc Kr := by
  unfold sIf cNot cEqL kL kV xr
  simp only [he1, he2]
  refine ha _ _ ⟨LI_on hL, (hB hL).weaken (fun rv h1 hb => ?_)⟩
  obtain ⟨n, rfl, g1, g2⟩ := hb
  refine ha _ _ ⟨g1, g2.weaken (fun rv2 h2 hb2 => ?_)⟩
  obtain ⟨rfl, hl⟩ := hb2
  exact ⟨fun _ => hK h2 hl, fun z => absurd rfl z⟩
theorem arm_A {a : EA} {as : List Value} {env : Lc} {σ : AH} {MC MM : MD} {mc ms : Nat} {Kn Kb Kc : KN} {Kr : KR} (he1 : env[1]? = some (some (.ref (bA X)))) (he2 : env[2]? = some (some (.ref (mB X)))) (ha : ∀ (σ' : AH) (K : List Value → AH → Prop), K as σ' → a env σ' K) (hL : LI X σ.1 σ.2.1) (hc : σ.2.2.1 + mc ≤ room_1.cells) (hs : σ.2.2.2 + ms ≤ room_1.slots) (hB : ∀ {H n}, LI X H n → CALLA X MC 1000 mc ms (.ref (bA X) :: as) H n (fun rv h1 nx' => BK2 X Value.int MM as nx' rv h1)) (hK : ∀ h' nx', LI X h' nx' → Kb env (h', (nx', (σ.2.2.1 + mc, σ.2.2.2 + ms)))) : (sIf (cNot (cEq (kI (kVA X room_1 MC 1000 mc ms 0 (xr 1) a)) (kI (kV X MM 1000 12 (xr 2) a)))) (sRetZ (xc 0)) sBrk) env σ Kn Kb Kc Kr := by
  unfold sIf cNot cEq kI kVA kV xr
  simp only [he1, he2]
  refine ha _ _ ⟨hc, hs, LI_on hL, (hB hL).weaken (fun rv h1 nx' hb => ?_)⟩
  obtain ⟨n, rfl, g1, g2⟩ := hb
  refine ha _ _ ⟨g1, g2.weaken (fun rv2 h2 hb2 => ?_)⟩
  obtain ⟨rfl, hl⟩ := hb2
  exact ⟨fun _ => hK h2 nx' hl, fun z => absurd rfl z⟩
theorem vp_of {p n : Nat} (h : p < n) (hn : n ≤ 2560) : vp_in (nI p) n := by
  rintro (q | q)
  · have := Int32.lt_iff_toInt_lt.mp q
    rw [nI_toInt (by omega)] at this
    have e0 : (0 : Int32).toInt = 0 := by decide
    omega
  · rw [nI_clamp (by omega)] at q; omega
theorem s_at0 {p : Nat} (h : p < X.2.2.2.2.2.2.2.1) (hn : X.2.2.2.2.2.2.2.1 ≤ 2560) (σ : AH) (K : Int32 → AH → Prop) (hK : K (X.2.2.2.2.2.2.2.2 p) σ) : xsld X (xr 0) (xi 3) (E X p) σ K := by
  show X.2.2.2.2.2.2.1 = X.2.2.2.2.2.2.1 ∧ vp_in (nI p) X.2.2.2.2.2.2.2.1 ∧ K (X.2.2.2.2.2.2.2.2 (nI p).toNatClampNeg) σ
  rw [nI_clamp (by omega)]
  exact ⟨rfl, vp_of h hn, hK⟩
theorem s_at {p j : Nat} (h : p + j < X.2.2.2.2.2.2.2.1) (hn : X.2.2.2.2.2.2.2.1 ≤ 2560) (σ : AH) (K : Int32 → AH → Prop) (hK : K (X.2.2.2.2.2.2.2.2 (p + j)) σ) : xsld X (xr 0) (xadd (xi 3) (xc (nI j))) (E X p) σ K := by
  show X.2.2.2.2.2.2.1 = X.2.2.2.2.2.2.1 ∧ vp_in (nI p + nI j) X.2.2.2.2.2.2.2.1 ∧ K (X.2.2.2.2.2.2.2.2 (nI p + nI j).toNatClampNeg) σ
  rw [nI_add, nI_clamp (by omega)]
  exact ⟨rfl, vp_of h hn, hK⟩
theorem aIx {f : EI} {x : Int32} {a : EA} {as : List Value} {env : Lc} (hf : ∀ (σ' : AH) (K : Int32 → AH → Prop), K x σ' → f env σ' K) (ha : ∀ (σ' : AH) (K : List Value → AH → Prop), K as σ' → a env σ' K) : ∀ (σ' : AH) (K : List Value → AH → Prop), K (.int x :: as) σ' → aC (vI f) a env σ' K := fun _ _ h => hf _ _ (ha _ _ h)
theorem aNx {env : Lc} : ∀ (σ' : AH) (K : List Value → AH → Prop), K [] σ' → aN env σ' K := fun _ _ h => h
theorem sw_go {tbl : List (Int32 × ST)} {d : ST} {x : Int32} {env : Lc} {σ : AH} {Kn Kb Kc : KN} {Kr : KR} (h : ∀ q ∈ tbl, q.2 env σ Kn Kb Kc Kr) (hd : d env σ Kn Kb Kc Kr) : ((tbl.lookup x).getD d) env σ Kn Kb Kc Kr := by
  induction tbl with
  | nil => exact hd
  | cons q t ih =>
    obtain ⟨k, s⟩ := q
    rw [List.lookup_cons]
    split
    · exact h _ List.mem_cons_self
    · exact ih (fun q hq => h q (List.mem_cons_of_mem _ hq))
theorem sSw_go {f : EI} {tbl : List (Int32 × ST)} {d : ST} {env : Lc} {σ : AH} {Kn Kb Kc : KN} {Kr : KR} (hf : ∀ K : Int32 → AH → Prop, (∀ x, K x σ) → f env σ K) (h : ∀ q ∈ tbl, q.2 env σ Kn Kn Kc Kr) (hd : d env σ Kn Kn Kc Kr) : sSw f tbl d env σ Kn Kb Kc Kr := hf _ (fun _ => sw_go h hd)
set_option maxHeartbeats 4000000 in
set_option maxRecDepth 10000 in
theorem law_arms {p : Nat} {σ : AH} {Kn Kc : KN} {Kr : KR} (hp : p + 5 ≤ X.2.2.2.2.2.2.2.1) (hn : X.2.2.2.2.2.2.2.1 ≤ 2560) (hL : LI X σ.1 σ.2.1) (hc : σ.2.2.1 + 6 ≤ 600000) (hs : σ.2.2.2 + 144 ≤ 7302250) (hK : ∀ h' nx' c' s', LI X h' nx' → c' ≤ σ.2.2.1 + 6 → s' ≤ σ.2.2.2 + 144 → Kn (E X p) (h', (nx', (c', s')))) : L_law_1 X (E X p) σ Kn Kn Kc Kr := by
  have hK0 : ∀ h', LI X h' σ.2.1 → Kn (E X p) (h', σ.2) := fun h' h => hK h' σ.2.1 σ.2.2.1 σ.2.2.2 h (Nat.le_add_right _ _) (Nat.le_add_right _ _)
  have f1 : ∀ (σ' : AH) (K : Int32 → AH → Prop), K (X.2.2.2.2.2.2.2.2 (p + 1)) σ' → xsld X (xr 0) (xadd (xi 3) (xc 1)) (E X p) σ' K := s_at (j := 1) (by omega) hn
  have f2 : ∀ (σ' : AH) (K : Int32 → AH → Prop), K (X.2.2.2.2.2.2.2.2 (p + 2)) σ' → xsld X (xr 0) (xadd (xi 3) (xc 2)) (E X p) σ' K := s_at (j := 2) (by omega) hn
  have f3 : ∀ (σ' : AH) (K : Int32 → AH → Prop), K (X.2.2.2.2.2.2.2.2 (p + 3)) σ' → xsld X (xr 0) (xadd (xi 3) (xc 3)) (E X p) σ' K := s_at (j := 3) (by omega) hn
  have f4 : ∀ (σ' : AH) (K : Int32 → AH → Prop), K (X.2.2.2.2.2.2.2.2 (p + 4)) σ' → xsld X (xr 0) (xadd (xi 3) (xc 4)) (E X p) σ' K := s_at (j := 4) (by omega) hn
  have a0 := aNx (env := E X p)
  unfold L_law_1
  refine sSw_go (fun K hK => show xsld X (xr 0) (xi 3) (E X p) σ (fun x σ1 => K (x &&& 63) σ1) from s_at0 (p := p) (by omega) hn _ _ (hK _)) ?_ (hK0 _ hL)
  refine List.forall_mem_cons.mpr ⟨arm_I rfl rfl (aIx f1 aNx) hL (fun h => L_feed h) hK0, ?_⟩
  refine List.forall_mem_cons.mpr ⟨arm_A rfl rfl aNx hL (show σ.2.2.1 + 6 ≤ 600000 by omega) (show σ.2.2.2 + 137 ≤ 7302250 by omega) (fun h => L_house h) (fun h' nx' h => hK _ _ _ _ h (by omega) (by omega)), ?_⟩
  refine List.forall_mem_cons.mpr ⟨arm_A rfl rfl (aIx f1 (aIx f2 aNx)) hL (show σ.2.2.1 + 2 ≤ 600000 by omega) (show σ.2.2.2 + 144 ≤ 7302250 by omega) (fun h => L_person h) (fun h' nx' h => hK _ _ _ _ h (by omega) (by omega)), ?_⟩
  refine List.forall_mem_cons.mpr ⟨arm_I rfl rfl (aIx f1 (aIx f2 aNx)) hL (fun h => L_of h) hK0, ?_⟩
  refine List.forall_mem_cons.mpr ⟨arm_I rfl rfl (aIx f1 (aIx f2 aNx)) hL (fun h => L_use h) hK0, ?_⟩
  refine List.forall_mem_cons.mpr ⟨arm_I rfl rfl (aIx f1 (aIx f2 aNx)) hL (fun h => L_believe h) hK0, ?_⟩
  refine List.forall_mem_cons.mpr ⟨arm_I rfl rfl (aIx f1 (aIx f2 (aIx f3 aNx))) hL (fun h => L_row h) hK0, ?_⟩
  refine List.forall_mem_cons.mpr ⟨arm_I rfl rfl (aIx f1 (aIx f2 aNx)) hL (fun h => L_set h) hK0, ?_⟩
  refine List.forall_mem_cons.mpr ⟨arm_I rfl rfl (aIx f1 aNx) hL (fun h => L_hear h) hK0, ?_⟩
  refine List.forall_mem_cons.mpr ⟨arm_I rfl rfl (aIx f1 (aIx f2 aNx)) hL (fun h => L_tell h) hK0, ?_⟩
  refine List.forall_mem_cons.mpr ⟨arm_I rfl rfl (aIx f1 aNx) hL (fun h => L_told h) hK0, ?_⟩
  refine List.forall_mem_cons.mpr ⟨arm_I rfl rfl aNx hL (fun h => L_day h) hK0, ?_⟩
  refine List.forall_mem_cons.mpr ⟨arm_I rfl rfl (aIx f1 (aIx f2 aNx)) hL (fun h => L_on h) hK0, ?_⟩
  refine List.forall_mem_cons.mpr ⟨arm_I rfl rfl aNx hL (fun h => L_inTime h) hK0, ?_⟩
  refine List.forall_mem_cons.mpr ⟨arm_I rfl rfl aNx hL (fun h => L_worst h) hK0, ?_⟩
  refine List.forall_mem_cons.mpr ⟨arm_I rfl rfl (aIx f1 aNx) hL (fun h => L_order h) hK0, ?_⟩
  refine List.forall_mem_cons.mpr ⟨arm_I rfl rfl (aIx f1 (aIx f2 (aIx f3 aNx))) hL (fun h => L_best h) hK0, ?_⟩
  refine List.forall_mem_cons.mpr ⟨arm_I rfl rfl (aIx f1 (aIx f2 (aIx f3 aNx))) hL (fun h => L_rowOf h) hK0, ?_⟩
  refine List.forall_mem_cons.mpr ⟨arm_I rfl rfl (aIx f1 (aIx f2 aNx)) hL (fun h => L_lasts h) hK0, ?_⟩
  refine List.forall_mem_cons.mpr ⟨arm_L rfl rfl (aIx f1 (aIx f2 (aIx f3 (aIx f4 aNx)))) hL (fun h => L_mixed h) hK0, ?_⟩
  refine List.forall_mem_cons.mpr ⟨arm_I rfl rfl (aIx f1 aNx) hL (fun h => L_goBy h) hK0, ?_⟩
  refine List.forall_mem_cons.mpr ⟨arm_I rfl rfl (aIx f1 aNx) hL (fun h => L_call h) hK0, ?_⟩
  refine List.forall_mem_cons.mpr ⟨arm_I rfl rfl (aIx f1 (aIx f2 aNx)) hL (fun h => L_padded h) hK0, ?_⟩
  refine List.forall_mem_cons.mpr ⟨arm_I rfl rfl aNx hL (fun h => L_tellOne h) hK0, ?_⟩
  refine List.forall_mem_cons.mpr ⟨arm_I rfl rfl (aIx f1 aNx) hL (fun h => L_known h) hK0, ?_⟩
  refine List.forall_mem_cons.mpr ⟨arm_I rfl rfl (aIx f1 (aIx f2 aNx)) hL (fun h => L_see h) hK0, ?_⟩
  refine List.forall_mem_cons.mpr ⟨arm_I rfl rfl (aIx f1 (aIx f2 aNx)) hL (fun h => L_fast h) hK0, ?_⟩
  refine List.forall_mem_cons.mpr ⟨arm_I rfl rfl (aIx f1 aNx) hL (fun h => L_who h) hK0, ?_⟩
  refine List.forall_mem_cons.mpr ⟨arm_L rfl rfl (aIx f1 (aIx f2 aNx)) hL (fun h => L_odds h) hK0, ?_⟩
  refine List.forall_mem_cons.mpr ⟨arm_L rfl rfl (aIx f1 aNx) hL (fun h => L_mean h) hK0, ?_⟩
  refine List.forall_mem_cons.mpr ⟨arm_I rfl rfl (aIx f1 (aIx f2 (aIx f3 aNx))) hL (fun h => L_rule h) hK0, ?_⟩
  refine List.forall_mem_cons.mpr ⟨arm_I rfl rfl aNx hL (fun h => L_ruled h) hK0, ?_⟩
  refine List.forall_mem_cons.mpr ⟨arm_I rfl rfl (aIx f1 (aIx f2 aNx)) hL (fun h => L_book h) hK0, ?_⟩
  refine List.forall_mem_cons.mpr ⟨arm_I rfl rfl aNx hL (fun h => L_looked h) hK0, ?_⟩
  refine List.forall_mem_cons.mpr ⟨arm_I rfl rfl (aIx f1 (aIx f2 (aIx f3 aNx))) hL (fun h => L_act h) hK0, ?_⟩
  refine List.forall_mem_cons.mpr ⟨arm_I rfl rfl (aIx f1 aNx) hL (fun h => L_trace h) hK0, ?_⟩
  refine List.forall_mem_cons.mpr ⟨arm_I rfl rfl (aIx f1 (aIx f2 aNx)) hL (fun h => L_as h) hK0, ?_⟩
  refine List.forall_mem_cons.mpr ⟨arm_I rfl rfl aNx hL (fun h => L_image h) hK0, ?_⟩
  refine List.forall_mem_cons.mpr ⟨arm_I rfl rfl aNx hL (fun h => L_undo h) hK0, ?_⟩
  refine List.forall_mem_cons.mpr ⟨arm_I rfl rfl (aIx f1 aNx) hL (fun h => L_count h) hK0, ?_⟩
  exact fun _ h => absurd h List.not_mem_nil
theorem len_gt {p L : Nat} (hL : L ≤ 2560) (hp : p ≤ 2560) : (Int32.ofNat L - 5 < nI p) = (L < p + 5) := by
  have e : (Int32.ofNat L - 5 : Int32).toInt = (L : Int) - 5 := by
    show (nI L - nI 5 : Int32).toInt = _
    rw [Int32.toInt_sub, nI_toInt (by omega), nI_toInt (by omega)]
    exact Int.bmod_eq_of_le (by omega) (by omega)
  refine propext (Iff.trans Int32.lt_iff_toInt_lt ?_)
  rw [e, nI_toInt (by omega)]
  omega
theorem law_loop {σ : AH} {Kn Kb Kc : KN} {Kr : KR} (hn : X.2.2.2.2.2.2.2.1 ≤ 2560) (hL : LI X σ.1 σ.2.1) (hc : σ.2.2.1 ≤ 100) (hs : σ.2.2.2 ≤ 3000) (hK : ∀ e' σ', σ'.2.2.1 ≤ 600000 → σ'.2.2.2 ≤ 7302250 → Kn e' σ') : sFor (cNot (cGt (xi 3) (xsub (xslen X (xr 0)) (xc 5)))) (L_law_1 X) (sInc 3 5) (E X 0) σ Kn Kb Kc Kr := by
  rw [sFor_t]
  refine for_rule (fun m env σ => ∃ k, k + m = 512 ∧ env = E X (5 * k) ∧ LI X σ.1 σ.2.1 ∧ σ.2.2.1 ≤ 100 + 6 * k ∧ σ.2.2.2 ≤ 3000 + 144 * k) 512 ⟨0, by omega, rfl, hL, by omega, by omega⟩ ?_
  rintro m env σ P ⟨k, hk, rfl, h1, h2, h3⟩ hP
  show X.2.2.2.2.2.2.1 = X.2.2.2.2.2.2.1 ∧ (Int32.ofNat X.2.2.2.2.2.2.2.1 - 5 < nI (5 * k) → _) ∧ (¬ (Int32.ofNat X.2.2.2.2.2.2.2.1 - 5 < nI (5 * k)) → _)
  refine ⟨rfl, fun _ => hK _ _ (by omega) (by omega), fun z => ?_⟩
  rw [len_gt hn (by omega)] at z
  refine law_arms (by omega) hn h1 (by omega) (by omega) (fun h' nx' c' s' g1 g2 g3 => ?_)
  show P (eset (E X (5 * k)) 3 (.int (nI (5 * k) + nI 5))) (h', (nx', (c', s')))
  rw [nI_add]
  exact hP (m - 1) _ _ (by omega) ⟨k + 1, by omega, rfl, g1, by dsimp only; omega, by dsimp only; omega⟩
theorem FC0.ext {H H' : HM} (h : FC0 X H) (he : ∀ p, bA X ≤ p → p < bA X + 53 → H' p = H p) : FC0 X H' := by
  obtain ⟨f0, f1, f2, f3, f4, f5, f6, f7⟩ := h
  refine ⟨?_, fun k j hk hj => ?_, ?_, ?_, fun k j hk hj => ?_, fun j hj => ?_, ?_, ?_⟩
  · rw [he _ (by omega) (by omega)]; exact f0
  · rw [he _ (by unfold NB bA; omega) (by unfold NB bA; omega)]; exact f1 k j hk hj
  · rw [he _ (by unfold TB bA; omega) (by unfold TB bA; omega)]; exact f2
  · rw [he _ (by unfold TB bA; omega) (by unfold TB bA; omega)]; exact f3
  · rw [he _ (by unfold SB bA; omega) (by unfold SB bA; omega)]; exact f4 k j hk hj
  · rw [he _ (by omega) (by omega)]; exact f5 j hj
  · rw [he _ (by omega) (by omega)]; exact f6
  · rw [he _ (by omega) (by omega)]; exact f7
theorem LI_0 {H : HM} (h : FC0 X H) (hM : MH X H zf S0 zf zf zf zf (fun _ => zf) = H) : LI X H (bA X + 65) := by
  have e : CS X H (fun _ => (S0, (six 6 (bA X + 27), bA X + 21))) (fun _ => S0) (0, fun _ => 0) (nI 0) S0 (six 6 (bA X + 27), bA X + 21) = H := by
    unfold CS
    rw [vuI (k := 0) (f := fun _ => ((S0, (six 6 (bA X + 27), bA X + 21)) : SR)) rfl, vuI (k := 0) (f := fun _ => S0) rfl]
    exact FC0_CH h
  refine ⟨P0 X, Q0 X, H, fun _ => (S0, (six 6 (bA X + 27), bA X + 21)), fun _ => S0, (0, fun _ => 0), nI 0, S0, (six 6 (bA X + 27), bA X + 21), zf, zf, zf, zf, zf, fun _ => zf, ?_, ⟨FC0_DI h, Nw_0, S0_IV, S0_SK, S0_PN⟩, ⟨S0_PN, S0_PN, S0_PN⟩, Or.inl rfl, by decide, rfl, rfl, rfl, rfl⟩
  rw [e, hM]
/-- the law's body, from its entry -/
theorem law_run {Kn Kb Kc : KN} {Kr : KR} (hn : X.2.2.2.2.2.2.2.1 ≤ 2560) (hK : ∀ σ', σ'.2.2.1 ≤ 600000 → σ'.2.2.2 ≤ 7302250 → Kr (some (.int 1)) σ') : B_law X [some (.ref X.2.2.2.2.2.2.1), none, none, none] (fun _ => none, (bA X, (0, 0))) Kn Kb Kc Kr := by
  unfold B_law
  refine ⟨show 0 + 1 ≤ 600000 by omega, show 0 + 8 ≤ 7302250 by omega, show 0 + 1 + 52 ≤ 600000 by omega, show 0 + 8 + 825 ≤ 7302250 by omega, ?_⟩
  refine t_FCI (by omega) up_s (fun H h1 h2 => ⟨rfl, ?_⟩)
  refine ⟨show 0 + 1 + 52 + 1 ≤ 600000 by omega, show 0 + 8 + 825 + 24 ≤ 7302250 by omega, show 0 + 1 + 52 + 1 + 11 ≤ 600000 by omega, show 0 + 8 + 825 + 24 + 2020 ≤ 7302250 by omega, ?_⟩
  refine t_ModI (by omega) up_s (fun H' g1 g2 => ⟨rfl, ?_⟩)
  have h3 : FC0 X H' := h1.ext (fun p a1 a2 => (g2 p (Or.inl (by unfold mB; unfold bA at a2; omega))).trans (up_n (h := H) (a := bA X + 53) (by omega)))
  refine law_loop (Kb := Kb) (Kc := Kc) (σ := (H', (bA X + 65, (0 + 1 + 52 + 1 + 11, 0 + 8 + 825 + 24 + 2020)))) hn (LI_0 h3 g1) (by dsimp only; omega) (by dsimp only; omega) (fun e' σ' a1 a2 => ⟨Or.inr rfl, hK σ' a1 a2⟩)
end LAWRUN
