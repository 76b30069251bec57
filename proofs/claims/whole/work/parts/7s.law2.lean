section LAW2
variable {X : WX} {H : HM} {nx : Nat} {x y z a : Int32}
theorem okV.w {S : Nat → Int32} {a u M : Nat} (h : okV S a u M) (hn : nP S ≤ 6) : okW S a u M := by
  obtain ⟨t, h1, h2, h3⟩ := h
  refine ⟨t, h1, h2, fun k hk => ?_⟩
  obtain ⟨p, g1, g2⟩ := h3 k hk
  exact ⟨p, by omega, g2⟩
theorem IV.n6 {S : Nat → Int32} (h : IV S) : nP S ≤ 6 := h.WF.nP
theorem IV.e11 {S : Nat → Int32} (h : IV S) : ∃ n, n ≤ 6 ∧ S 11 = nI n := (h.1 11).2.2.2.2.1 rfl
theorem IV.e16 {S : Nat → Int32} (h : IV S) : ∃ n, n ≤ 100 ∧ S 16 = nI n := (h.1 16).2.2.2.2.2.2.2.2.2 rfl
theorem IV.e18 {S : Nat → Int32} (h : IV S) : ∀ p, p < 6 → ∃ k, k < 7 ∧ S (18 + p) = nI k := h.WF.2.1
theorem L_use (h : LI X H nx) : CALL X M_FC_use 1000 (.ref (bA X) :: [.int x, .int y]) H (BK2 X Value.int M_Mod_use [.int x, .int y] nx) := by
  obtain ⟨P, Q, dh, st, nt, t, im, S, w, i, I, F, B, T, r, rfl, hC⟩ := h
  exact two (c := Value.int) hC hC.iv.use (KP.use hC.iv) (fun K hx hK => u_use (by omega) hx hK) (fun h K hK => t_use (by omega) hC.iv.WF (hK _ _ _ _ _ rfl rfl rfl rfl))
theorem L_believe (h : LI X H nx) : CALL X M_FC_believe 1000 (.ref (bA X) :: [.int x, .int y]) H (BK2 X Value.int M_Mod_believe [.int x, .int y] nx) := by
  obtain ⟨P, Q, dh, st, nt, t, im, S, w, i, I, F, B, T, r, rfl, hC⟩ := h
  exact two (c := Value.int) hC hC.iv.believe (KP.believe hC.iv) (fun K hx hK => u_believe (by omega) hx hK) (fun h K hK => t_believe (by omega) hC.iv.WF (hK _ _ _ _ _ rfl rfl rfl rfl))
theorem L_row (h : LI X H nx) : CALL X M_FC_row 1000 (.ref (bA X) :: [.int x, .int y, .int z]) H (BK2 X Value.int M_Mod_row [.int x, .int y, .int z] nx) := by
  obtain ⟨P, Q, dh, st, nt, t, im, S, w, i, I, F, B, T, r, rfl, hC⟩ := h
  exact two (c := Value.int) hC hC.iv.row (KP.row hC.iv) (fun K hx hK => u_row (by omega) hx hK) (fun h K hK => t_row (by omega) hC.iv.WF (hK _ _ _ _ _ rfl rfl rfl rfl))
theorem L_set (h : LI X H nx) : CALL X M_FC_set 1000 (.ref (bA X) :: [.int x, .int y]) H (BK2 X Value.int M_Mod_set [.int x, .int y] nx) := by
  obtain ⟨P, Q, dh, st, nt, t, im, S, w, i, I, F, B, T, r, rfl, hC⟩ := h
  exact two (c := Value.int) hC hC.iv.set KP.set (fun K hx hK => u_set (by omega) hx hK) (fun h K hK => t_setM (by omega) (hK _ _ _ _ _ rfl rfl rfl rfl))
theorem L_hear (h : LI X H nx) : CALL X M_FC_hear 1000 (.ref (bA X) :: [.int x]) H (BK2 X Value.int M_Mod_hear [.int x] nx) := by
  obtain ⟨P, Q, dh, st, nt, t, im, S, w, i, I, F, B, T, r, rfl, hC⟩ := h
  exact two (c := Value.int) hC hC.iv.hear (KP.hear hC.iv) (fun K hx hK => u_hear (by omega) hx hK) (fun h K hK => t_hear (by omega) hC.iv.WF (hK _ _ _ _ _ rfl rfl rfl rfl))
theorem L_tell (h : LI X H nx) : CALL X M_FC_tell 1000 (.ref (bA X) :: [.int x, .int y]) H (BK2 X Value.int M_Mod_tell [.int x, .int y] nx) := by
  obtain ⟨P, Q, dh, st, nt, t, im, S, w, i, I, F, B, T, r, rfl, hC⟩ := h
  exact two (c := Value.int) hC hC.iv.tell (KP.tell hC.iv) (fun K hx hK => u_tell (by omega) hx hK) (fun h K hK => t_tell (by omega) hC.iv.WF (hK _ _ _ _ _ rfl rfl rfl rfl))
theorem L_day (h : LI X H nx) : CALL X M_FC_day 1000 (.ref (bA X) :: []) H (BK2 X Value.int M_Mod_day [] nx) := by
  obtain ⟨P, Q, dh, st, nt, t, im, S, w, i, I, F, B, T, r, rfl, hC⟩ := h
  exact two (c := Value.int) hC hC.iv.day (KP.day hC.iv) (fun K hx hK => u_day (fill_ok X) (by omega) rfl hx hK) (fun h K hK => t_day (by omega) (by decide) hC.iv.WF hC.2.2.2.2.2.1 (fun _ _ => hK _ _ _ _ _ rfl rfl rfl rfl))
theorem L_feed (h : LI X H nx) : CALL X M_FC_feed 1000 (.ref (bA X) :: [.int x]) H (BK2 X Value.int M_Mod_feed [.int x] nx) := by
  obtain ⟨P, Q, dh, st, nt, t, im, S, w, i, I, F, B, T, r, rfl, hC⟩ := h
  obtain ⟨n, hn, e16⟩ := hC.iv.e16
  exact two (c := Value.int) hC hC.iv.feed (KP.feed hC.iv) (fun K hx hK => u_feed (by omega) hn e16 hx hK) (fun h K hK => t_feed (by omega) hn e16 (hK _ _ _ _ _ rfl rfl rfl rfl))
theorem L_see (h : LI X H nx) : CALL X M_FC_see 1000 (.ref (bA X) :: [.int x, .int y]) H (BK2 X Value.int M_Mod_see [.int x, .int y] nx) := by
  obtain ⟨P, Q, dh, st, nt, t, im, S, w, i, I, F, B, T, r, rfl, hC⟩ := h
  obtain ⟨n, hn, e13⟩ := hC.iv.2.2.1.cnt
  obtain ⟨m, hm, e11⟩ := hC.iv.e11
  exact two (c := Value.int) hC hC.iv.see (KP.see hC.iv) (fun K hx hK => u_see (by omega) hn e13 hx hK) (fun h K hK => t_see (by omega) hm e11 hn e13 (hK _ _ _ _ _ rfl rfl rfl rfl))
theorem L_book (h : LI X H nx) : CALL X M_FC_book 1000 (.ref (bA X) :: [.int x, .int y]) H (BK2 X Value.int M_Mod_book [.int x, .int y] nx) := by
  obtain ⟨P, Q, dh, st, nt, t, im, S, w, i, I, F, B, T, r, rfl, hC⟩ := h
  obtain ⟨n, hn, e15⟩ := hC.iv.2.2.2.1.cnt
  obtain ⟨m, hm, e11⟩ := hC.iv.e11
  exact two (c := Value.int) hC hC.iv.book (KP.book hC.iv) (fun K hx hK => u_book (by omega) hn e15 hx hK) (fun h K hK => t_book (by omega) hm e11 hn e15 (hK _ _ _ _ _ rfl rfl rfl rfl))
theorem L_rule (h : LI X H nx) : CALL X M_FC_rule 1000 (.ref (bA X) :: [.int x, .int y, .int z]) H (BK2 X Value.int M_Mod_rule [.int x, .int y, .int z] nx) := by
  obtain ⟨P, Q, dh, st, nt, t, im, S, w, i, I, F, B, T, r, rfl, hC⟩ := h
  obtain ⟨n, hn, e14, -⟩ := hC.iv.2.2.2.2
  exact two (c := Value.int) hC hC.iv.rule (KP.rule hC.iv) (fun K hx hK => u_rule (by omega) hn e14 hx hK) (fun h K hK => t_rule (by omega) hn e14 (hK _ _ _ _ _ rfl rfl rfl rfl))
theorem L_of (h : LI X H nx) : CALL X M_FC_of 1000 (.ref (bA X) :: [.int x, .int y]) H (BK2 X Value.int M_Mod_of [.int x, .int y] nx) := by
  obtain ⟨P, Q, dh, st, nt, t, im, S, w, i, I, F, B, T, r, rfl, hC⟩ := h
  exact ask (c := Value.int) hC (fun K hx hK => u_of (fill_ok X) (by omega) hx hK) (fun h K hK => t_of (by omega) (by decide) hC.iv.WF (fun _ _ => hK _ _ _ _ _ rfl rfl rfl rfl))
theorem L_told (h : LI X H nx) : CALL X M_FC_told 1000 (.ref (bA X) :: [.int x]) H (BK2 X Value.int M_Mod_told [.int x] nx) := by
  obtain ⟨P, Q, dh, st, nt, t, im, S, w, i, I, F, B, T, r, rfl, hC⟩ := h
  exact ask (c := Value.int) hC (fun K hx hK => u_told (by omega) hx hK) (fun h K hK => t_told (by omega) hC.iv.WF.2.2.2.2.2 (hK _ _ _ _ _ rfl rfl rfl rfl))
theorem L_on (h : LI X H nx) : CALL X M_FC_on 1000 (.ref (bA X) :: [.int x, .int y]) H (BK2 X Value.int M_Mod_on [.int x, .int y] nx) := by
  obtain ⟨P, Q, dh, st, nt, t, im, S, w, i, I, F, B, T, r, rfl, hC⟩ := h
  exact ask (c := Value.int) hC (fun K hx hK => u_on (fill_ok X) (by omega) hx hK) (fun h K hK => t_on (by omega) (by decide) hC.iv.WF hC.2.2.2.2.2.1 (fun _ _ _ => hK _ _ _ _ _ rfl rfl rfl rfl))
theorem L_inTime (h : LI X H nx) : CALL X M_FC_inTime 1000 (.ref (bA X) :: []) H (BK2 X Value.int M_Mod_inTime [] nx) := by
  obtain ⟨P, Q, dh, st, nt, t, im, S, w, i, I, F, B, T, r, rfl, hC⟩ := h
  exact ask (c := Value.int) hC (fun K hx hK => u_inTime (fill_ok X) (by omega) hx hK) (fun h K hK => t_inTime (by omega) (by decide) hC.iv.WF hC.2.2.2.2.2.1 (fun _ _ _ => hK _ _ _ _ _ rfl rfl rfl rfl))
theorem L_worst (h : LI X H nx) : CALL X M_FC_worst 1000 (.ref (bA X) :: []) H (BK2 X Value.int M_Mod_worst [] nx) := by
  obtain ⟨P, Q, dh, st, nt, t, im, S, w, i, I, F, B, T, r, rfl, hC⟩ := h
  exact ask (c := Value.int) hC (fun K hx hK => u_worst (fill_ok X) (by omega) hx hK) (fun h K hK => t_worst (by omega) (by decide) hC.iv.WF (fun _ _ _ e => hK _ _ _ _ _ rfl rfl rfl e))
theorem L_order (h : LI X H nx) : CALL X M_FC_order 1000 (.ref (bA X) :: [.int x]) H (BK2 X Value.int M_Mod_order [.int x] nx) := by
  obtain ⟨P, Q, dh, st, nt, t, im, S, w, i, I, F, B, T, r, rfl, hC⟩ := h
  exact ask (c := Value.int) hC (fun K hx hK => u_order (fill_ok X) (by omega) hx hK) (fun h K hK => t_order (by omega) (by decide) hC.iv.WF (fun _ _ _ e => hK _ _ _ _ _ rfl rfl rfl e))
theorem L_best (h : LI X H nx) : CALL X M_FC_best 1000 (.ref (bA X) :: [.int x, .int y, .int z]) H (BK2 X Value.int M_Mod_best [.int x, .int y, .int z] nx) := by
  obtain ⟨P, Q, dh, st, nt, t, im, S, w, i, I, F, B, T, r, rfl, hC⟩ := h
  exact ask (c := Value.int) hC (fun K hx hK => u_best (fill_ok X) (by omega) hx (fun c q hc hq => hC.bd.best hc hq) hK) (fun h K hK => t_best (by omega) (by decide) hC.iv.WF hC.2.2.2.2.2.1 (fun _ _ _ => hK _ _ _ _ _ rfl rfl rfl rfl))
theorem L_rowOf (h : LI X H nx) : CALL X M_FC_rowOf 1000 (.ref (bA X) :: [.int x, .int y, .int z]) H (BK2 X Value.int M_Mod_rowOf [.int x, .int y, .int z] nx) := by
  obtain ⟨P, Q, dh, st, nt, t, im, S, w, i, I, F, B, T, r, rfl, hC⟩ := h
  exact ask (c := Value.int) hC (fun K hx hK => u_rowOf (fill_ok X) (by omega) hx (fun c n hc hn => hC.bd.rowOf hc hn) hK) (fun h K hK => t_rowOf (by omega) (by decide) hC.iv.WF hC.2.2.2.2.2.1 (fun _ _ _ _ e1 e => hK _ _ _ _ _ (e1 4 (by omega)) (e1 12 (by omega)) (e1 20 (by omega)) e))
theorem L_lasts (h : LI X H nx) : CALL X M_FC_lasts 1000 (.ref (bA X) :: [.int x, .int y]) H (BK2 X Value.int M_Mod_lasts [.int x, .int y] nx) := by
  obtain ⟨P, Q, dh, st, nt, t, im, S, w, i, I, F, B, T, r, rfl, hC⟩ := h
  exact ask (c := Value.int) hC (fun K hx hK => u_lasts (fill_ok X) (by omega) hx hK) (fun h K hK => t_lasts (by omega) (by decide) hC.iv.WF hC.2.2.2.2.2.1 (fun _ _ _ _ e => hK _ _ _ _ _ rfl rfl rfl e))
theorem L_mixed (h : LI X H nx) : CALL X M_FC_mixed 1000 (.ref (bA X) :: [.int x, .int a, .int z, .int y]) H (BK2 X Value.long M_Mod_mixed [.int x, .int a, .int z, .int y] nx) := by
  obtain ⟨P, Q, dh, st, nt, t, im, S, w, i, I, F, B, T, r, rfl, hC⟩ := h
  exact ask (c := Value.long) hC (fun K hx hK => u_mixed (fill_ok X) (by omega) hx hK) (fun h K hK => t_mixed (by omega) (by decide) hC.iv.WF hC.2.2.2.2.2.1 (fun _ _ => hK _ _ _ _ _ rfl rfl rfl rfl))
theorem L_goBy (h : LI X H nx) : CALL X M_FC_goBy 1000 (.ref (bA X) :: [.int x]) H (BK2 X Value.int M_Mod_goBy [.int x] nx) := by
  obtain ⟨P, Q, dh, st, nt, t, im, S, w, i, I, F, B, T, r, rfl, hC⟩ := h
  exact ask (c := Value.int) hC (fun K hx hK => u_goBy (fill_ok X) (by omega) hx hK) (fun h K hK => t_goBy (by omega) (by decide) hC.iv.WF (fun _ _ => hK _ _ _ _ _ rfl rfl rfl rfl))
theorem L_call (h : LI X H nx) : CALL X M_FC_call 1000 (.ref (bA X) :: [.int x]) H (BK2 X Value.int M_Mod_call [.int x] nx) := by
  obtain ⟨P, Q, dh, st, nt, t, im, S, w, i, I, F, B, T, r, rfl, hC⟩ := h
  exact ask (c := Value.int) hC (fun K hx hK => u_call (fill_ok X) (by omega) hx (fun q hq => hC.bd.call hq) hK) (fun h K hK => t_call (by omega) (by decide) hC.iv.WF hC.2.2.2.2.2.1 (fun _ _ _ => hK _ _ _ _ _ rfl rfl rfl rfl))
theorem L_padded (h : LI X H nx) : CALL X M_FC_padded 1000 (.ref (bA X) :: [.int x, .int y]) H (BK2 X Value.int M_Mod_padded [.int x, .int y] nx) := by
  obtain ⟨P, Q, dh, st, nt, t, im, S, w, i, I, F, B, T, r, rfl, hC⟩ := h
  exact ask (c := Value.int) hC (fun K hx hK => u_padded (fill_ok X) (by omega) hx hK) (fun h K hK => t_padded (by omega) (by decide) hC.iv.WF (fun _ _ _ => hK _ _ _ _ _ rfl rfl rfl rfl))
theorem L_tellOne (h : LI X H nx) : CALL X M_FC_tellOne 1000 (.ref (bA X) :: []) H (BK2 X Value.int M_Mod_tellOne [] nx) := by
  obtain ⟨P, Q, dh, st, nt, t, im, S, w, i, I, F, B, T, r, rfl, hC⟩ := h
  exact ask (c := Value.int) hC (fun K hx hK => u_tellOne (fill_ok X) (by omega) hx hK) (fun h K hK => t_tellOne (by omega) (by decide) hC.iv.WF hC.2.2.2.2.2.1 (fun _ _ => hK _ _ _ _ _ rfl rfl rfl rfl))
theorem L_known (h : LI X H nx) : CALL X M_FC_known 1000 (.ref (bA X) :: [.int x]) H (BK2 X Value.int M_Mod_known [.int x] nx) := by
  obtain ⟨P, Q, dh, st, nt, t, im, S, w, i, I, F, B, T, r, rfl, hC⟩ := h
  obtain ⟨m, hm, e11⟩ := hC.iv.e11
  exact ask (c := Value.int) hC (fun K hx hK => u_knownC (by omega) hx hK) (fun h K hK => t_knownM (by omega) hm e11 (hK _ _ _ _ _ rfl rfl rfl rfl))
theorem L_fast (h : LI X H nx) : CALL X M_FC_fast 1000 (.ref (bA X) :: [.int x, .int y]) H (BK2 X Value.int M_Mod_fast [.int x, .int y] nx) := by
  obtain ⟨P, Q, dh, st, nt, t, im, S, w, i, I, F, B, T, r, rfl, hC⟩ := h
  exact ask (c := Value.int) hC (fun K hx hK => u_fast (fill_ok X) (by omega) hx hC.iv.2.2.1 hK) (fun h K hK => t_fast (by omega) (by decide) hC.iv.WF (hC.iv.2.2.1.w hC.iv.n6) (fun _ _ => hK _ _ _ _ _ rfl rfl rfl rfl))
theorem L_who (h : LI X H nx) : CALL X M_FC_who 1000 (.ref (bA X) :: [.int x]) H (BK2 X Value.int M_Mod_who [.int x] nx) := by
  obtain ⟨P, Q, dh, st, nt, t, im, S, w, i, I, F, B, T, r, rfl, hC⟩ := h
  exact ask (c := Value.int) hC (fun K hx hK => u_who (fill_ok X) (by omega) hx hK) (fun h K hK => t_who (by omega) (by decide) hC.iv.WF (fun _ _ => hK _ _ _ _ _ rfl rfl rfl rfl))
theorem L_odds (h : LI X H nx) : CALL X M_FC_odds 1000 (.ref (bA X) :: [.int x, .int y]) H (BK2 X Value.long M_Mod_odds [.int x, .int y] nx) := by
  obtain ⟨P, Q, dh, st, nt, t, im, S, w, i, I, F, B, T, r, rfl, hC⟩ := h
  exact ask (c := Value.long) hC (fun K hx hK => u_odds (fill_ok X) (by omega) hx hK) (fun h K hK => t_odds (by omega) (by decide) hC.iv.WF (fun _ _ => hK _ _ _ _ _ rfl rfl rfl rfl))
theorem L_mean (h : LI X H nx) : CALL X M_FC_mean 1000 (.ref (bA X) :: [.int x]) H (BK2 X Value.long M_Mod_mean [.int x] nx) := by
  obtain ⟨P, Q, dh, st, nt, t, im, S, w, i, I, F, B, T, r, rfl, hC⟩ := h
  exact ask (c := Value.long) hC (fun K hx hK => u_mean (fill_ok X) (by omega) hx hK) (fun h K hK => t_mean (by omega) (by decide) hC.iv.WF (fun _ _ => hK _ _ _ _ _ rfl rfl rfl rfl))
theorem L_ruled (h : LI X H nx) : CALL X M_FC_ruled 1000 (.ref (bA X) :: []) H (BK2 X Value.int M_Mod_ruled [] nx) := by
  obtain ⟨P, Q, dh, st, nt, t, im, S, w, i, I, F, B, T, r, rfl, hC⟩ := h
  exact ask (c := Value.int) hC (fun K hx hK => u_ruled (fill_ok X) (by omega) hx hC.iv.2.2.2.2 hK) (fun h K hK => t_ruled (by omega) (by decide) hC.iv.WF hC.iv.2.2.2.2 hC.2.2.2.2.2.1 (fun _ _ _ => hK _ _ _ _ _ rfl rfl rfl rfl))
theorem L_looked (h : LI X H nx) : CALL X M_FC_looked 1000 (.ref (bA X) :: []) H (BK2 X Value.int M_Mod_looked [] nx) := by
  obtain ⟨P, Q, dh, st, nt, t, im, S, w, i, I, F, B, T, r, rfl, hC⟩ := h
  exact ask (c := Value.int) hC (fun K hx hK => u_looked (fill_ok X) (by omega) hx hC.iv.2.2.2.1 hK) (fun h K hK => t_looked (by omega) (by decide) hC.iv.WF (hC.iv.2.2.2.1.w hC.iv.n6) (fun _ _ _ => hK _ _ _ _ _ rfl rfl rfl rfl))
theorem L_as (h : LI X H nx) : CALL X M_FC_as 1000 (.ref (bA X) :: [.int x, .int y]) H (BK2 X Value.int M_Mod_as [.int x, .int y] nx) := by
  obtain ⟨P, Q, dh, st, nt, t, im, S, w, i, I, F, B, T, r, rfl, hC⟩ := h
  obtain ⟨m, hm, e11⟩ := hC.iv.e11
  exact ask (c := Value.int) hC (fun K hx hK => u_as (by omega) hx hK) (fun h K hK => t_as (by omega) hm e11 hC.iv.e18 (hK _ _ _ _ _ rfl rfl rfl rfl))
theorem L_count (h : LI X H nx) : CALL X M_FC_count 1000 (.ref (bA X) :: [.int x]) H (BK2 X Value.int M_Mod_count [.int x] nx) := by
  obtain ⟨P, Q, dh, st, nt, t, im, S, w, i, I, F, B, T, r, rfl, hC⟩ := h
  exact ask (c := Value.int) hC (fun K hx hK => u_count (by omega) hx hK) (fun h K hK => t_count (by omega) hC.2.2.2.2.2.2.1 (hK _ _ _ _ _ rfl rfl rfl rfl))
theorem L_trace (h : LI X H nx) : CALL X M_FC_trace 1000 (.ref (bA X) :: [.int x]) H (BK2 X Value.int M_Mod_trace [.int x] nx) := by
  obtain ⟨P, Q, dh, st, nt, t, im, S, w, i, I, F, B, T, r, rfl, hC⟩ := h
  exact ask (c := Value.int) hC (fun K hx hK => u_trace (by omega) hC.2.2.2.1 (hK _ _ hx.nx)) (fun h K hK => t_trace (n := t.1) (by omega) hC.2.2.2.1 hC.2.2.2.2.2.2.1 (by rw [hC.2.2.2.2.2.2.2]; exact hK _ _ _ _ _ rfl rfl rfl rfl))
end LAW2
