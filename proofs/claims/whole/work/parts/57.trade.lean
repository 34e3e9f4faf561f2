/-! two things trade -/
theorem swp_at (h : Hs) (a b t : Nat) : sp_swp h a b t = if t = b then h a else if t = a then h b else h t := rfl
theorem swp_swp {h : Hs} {a b : Nat} : sp_swp (sp_swp h a b) a b = h := by
  funext t
  rw [swp_at, swp_at, swp_at, swp_at]
  by_cases e1 : t = b
  · subst e1
    by_cases e2 : a = t
    · subst e2; simp only [if_true]
    · simp only [if_true, if_neg e2]
  · by_cases e2 : t = a
    · subst e2; simp only [if_true, if_neg e1]
    · simp only [if_neg e1, if_neg e2]
theorem k_trade (x y : Int32) : ask y_C_trade y_M_trade [.int x, .int y] := by
  intro m ⟨T, G, F, q, w, day, num, c, r⟩
  have hk : sc_k 71 := Or.inr (Or.inr (Or.inl rfl))
  have hn5 := c.tw.n; have hL := c.tw.L; have hw5 := hw_len c.qw.hw; have ol := c.qw.ol
  have c2 := c.qR (fqR_th m (zn 0))
  have no : ∀ r', am_c 8 y_C_trade [.ref 0, .int x, .int y] m = some (r', m) → am_c 8 y_M_trade [.ref 107, .int x, .int y] m = some (r', (am_w m.1 107 2 (zn 0), m.2)) → ∃ r m1 m2, am_c 8 y_C_trade [.ref 0, .int x, .int y] m = some (r, m1) ∧ am_c 8 y_M_trade [.ref 107, .int x, .int y] m1 = some (r, m2) ∧ Inv m2 := fun r' h1 h2 => ⟨r', m, _, h1, h2, T, G, F, q, w, day, num, c2, r.qR (fqR_th m (zn 0))⟩
  by_cases e1 : is2 T x y = true
  · obtain ⟨a, b, ha, hb, hab, rfl, rfl⟩ := is2_t e1
    have xa : isN (T 0 0) (zn a) = true := by unfold is2 at e1; rw [Bool.and_eq_true] at e1; exact e1.1
    have xb : isN (T 0 0) (zn b) = true := by unfold is2 at e1; rw [Bool.and_eq_true, Bool.and_eq_true] at e1; exact e1.2.1
    have rS : ∀ m1 : am_M, tR T G F (am_w m1.1 107 2 (zn 0), m1.2) → nR T q.1 q.2.1 q.2.2.1 q.2.2.2 w day num (am_w m1.1 107 2 (zn 0), m1.2) → am_c 8 y_M_trade [.ref 107, .int (zn a), .int (zn b)] m1 = if q.2.2.2 a = none ∧ q.2.2.2 b = none then some (some (.int (zn 0)), (am_w m1.1 107 2 (zn 0), m1.2)) else am_bV (am_c 7 y_M_remember [.ref 107] (am_w m1.1 107 2 (zn 0), m1.2)) (fun m5 => some (some (.int (zn 1)), (am_w (am_w m5.1 132 a (m5.1 132 b)) 132 b (m5.1 132 a), m5.2))) := by
      intro m1 t1 n1
      rw [n_M_trade, s_isThingR t1 c.tw, bI_s, br_zb, if_pos xa, s_isThingR t1 c.tw, bI_s, br_zb, if_pos xb]
      have ka : m1.1 132 a = zo (q.2.2.2 a) := by have := n1.hs a ha; revert this; simp (disch := omega) only [w_ne, w_at, wl_ne, wl_at, wc_ne, wc_at, upd_at, upd_ne, upl_at, upl_ne, cpy_in0, zn_cl, zn_add, zn_mul, zn_sub, zn_pm, br_tt, br_ff, br_ltT, br_ltF, br_leT, br_leF, br_eqT, br_eqF, br_eqs, br_eqm, br_eqm', br_ltm, br_mlt, br_lem, br_mle, br_oiF, br_lgge, br_lgle, br_lggt, br_lglt, br_lgeq, br_zb, br_zb1, bV_s, bI_s, bL_s, zo_n, zo_s]; exact id
      have kb : m1.1 132 b = zo (q.2.2.2 b) := by have := n1.hs b hb; revert this; simp (disch := omega) only [w_ne, w_at, wl_ne, wl_at, wc_ne, wc_at, upd_at, upd_ne, upl_at, upl_ne, cpy_in0, zn_cl, zn_add, zn_mul, zn_sub, zn_pm, br_tt, br_ff, br_ltT, br_ltF, br_leT, br_leF, br_eqT, br_eqF, br_eqs, br_eqm, br_eqm', br_ltm, br_mlt, br_lem, br_mle, br_oiF, br_lgge, br_lgle, br_lggt, br_lglt, br_lgeq, br_zb, br_zb1, bV_s, bI_s, bL_s, zo_n, zo_s]; exact id
      rcases opt_c (q.2.2.2 a) with e | ⟨s, e⟩
      · rcases opt_c (q.2.2.2 b) with e' | ⟨s', e'⟩
        · rw [if_pos ⟨e, e'⟩]; simp (disch := omega) only [w_ne, w_at, wl_ne, wl_at, wc_ne, wc_at, upd_at, upd_ne, upl_at, upl_ne, cpy_in0, zn_cl, zn_add, zn_mul, zn_sub, zn_pm, br_tt, br_ff, br_ltT, br_ltF, br_leT, br_leF, br_eqT, br_eqF, br_eqs, br_eqm, br_eqm', br_ltm, br_mlt, br_lem, br_mle, br_oiF, br_lgge, br_lgle, br_lggt, br_lglt, br_lgeq, br_zb, br_zb1, bV_s, bI_s, bL_s, zo_n, zo_s, ka, kb, e, e', zo]
        · have := hw_h c.qw.hw hb e'
          rw [if_neg (fun h => by rw [e'] at h; cases h.2)]; simp (disch := omega) only [w_ne, w_at, wl_ne, wl_at, wc_ne, wc_at, upd_at, upd_ne, upl_at, upl_ne, cpy_in0, zn_cl, zn_add, zn_mul, zn_sub, zn_pm, br_tt, br_ff, br_ltT, br_ltF, br_leT, br_leF, br_eqT, br_eqF, br_eqs, br_eqm, br_eqm', br_ltm, br_mlt, br_lem, br_mle, br_oiF, br_lgge, br_lgle, br_lggt, br_lglt, br_lgeq, br_zb, br_zb1, bV_s, bI_s, bL_s, zo_n, zo_s, ka, kb, e, e', zo]
      · have := hw_h c.qw.hw ha e
        rw [if_neg (fun h => by rw [e] at h; cases h.1)]; simp (disch := omega) only [w_ne, w_at, wl_ne, wl_at, wc_ne, wc_at, upd_at, upd_ne, upl_at, upl_ne, cpy_in0, zn_cl, zn_add, zn_mul, zn_sub, zn_pm, br_tt, br_ff, br_ltT, br_ltF, br_leT, br_leF, br_eqT, br_eqF, br_eqs, br_eqm, br_eqm', br_ltm, br_mlt, br_lem, br_mle, br_oiF, br_lgge, br_lgle, br_lggt, br_lglt, br_lgeq, br_zb, br_zb1, bV_s, bI_s, bL_s, zo_n, zo_s, ka, kb, e, zo]
    have cS : am_c 8 y_C_trade [.ref 0, .int (zn a), .int (zn b)] m = if q.2.2.2 a = none ∧ q.2.2.2 b = none then some (some (.int (zn 0)), m) else (am_bV (am_c 7 y_Deeds_add [.ref 102, .int (zn 2), .int (zn a), .int (zn b), .int (zn 0)] m) (fun m3 => am_bV (am_c 7 y_Scene_exchange [.ref 71, .int (zn a), .int (zn b)] m3) (fun m4 => some (some (.int (zn 1)), m4)))) := by
      rw [n_C_trade, s_are2 c.tc c.tw, bI_s, br_zb, if_pos e1]
      have ka : m.1 72 a = zo (q.2.2.2 a) := c.sc.hs a ha
      have kb : m.1 72 b = zo (q.2.2.2 b) := c.sc.hs b hb
      rcases opt_c (q.2.2.2 a) with e | ⟨s, e⟩
      · rcases opt_c (q.2.2.2 b) with e' | ⟨s', e'⟩
        · rw [if_pos ⟨e, e'⟩]; simp (disch := omega) only [w_ne, w_at, wl_ne, wl_at, wc_ne, wc_at, upd_at, upd_ne, upl_at, upl_ne, cpy_in0, zn_cl, zn_add, zn_mul, zn_sub, zn_pm, br_tt, br_ff, br_ltT, br_ltF, br_leT, br_leF, br_eqT, br_eqF, br_eqs, br_eqm, br_eqm', br_ltm, br_mlt, br_lem, br_mle, br_oiF, br_lgge, br_lgle, br_lggt, br_lglt, br_lgeq, br_zb, br_zb1, bV_s, bI_s, bL_s, zo_n, zo_s, ka, kb, e, e', zo]
        · have := hw_h c.qw.hw hb e'
          rw [if_neg (fun h => by rw [e'] at h; cases h.2)]; simp (disch := omega) only [w_ne, w_at, wl_ne, wl_at, wc_ne, wc_at, upd_at, upd_ne, upl_at, upl_ne, cpy_in0, zn_cl, zn_add, zn_mul, zn_sub, zn_pm, br_tt, br_ff, br_ltT, br_ltF, br_leT, br_leF, br_eqT, br_eqF, br_eqs, br_eqm, br_eqm', br_ltm, br_mlt, br_lem, br_mle, br_oiF, br_lgge, br_lgle, br_lggt, br_lglt, br_lgeq, br_zb, br_zb1, bV_s, bI_s, bL_s, zo_n, zo_s, ka, kb, e, e', zo]
      · have := hw_h c.qw.hw ha e
        rw [if_neg (fun h => by rw [e] at h; cases h.1)]; simp (disch := omega) only [w_ne, w_at, wl_ne, wl_at, wc_ne, wc_at, upd_at, upd_ne, upl_at, upl_ne, cpy_in0, zn_cl, zn_add, zn_mul, zn_sub, zn_pm, br_tt, br_ff, br_ltT, br_ltF, br_leT, br_leF, br_eqT, br_eqF, br_eqs, br_eqm, br_eqm', br_ltm, br_mlt, br_lem, br_mle, br_oiF, br_lgge, br_lgle, br_lggt, br_lglt, br_lgeq, br_zb, br_zb1, bV_s, bI_s, bL_s, zo_n, zo_s, ka, kb, e, zo]
    by_cases e3 : q.2.2.2 a = none ∧ q.2.2.2 b = none
    · refine no (some (.int (zn 0))) ?_ ?_
      · rw [cS, if_pos e3]
      · rw [rS m c2.tr c2.nr, if_pos e3]
    · rw [if_neg e3] at cS
      obtain ⟨n, D, H, h⟩ := r.de
      obtain ⟨m1, a1, a2, a3, a4, a5, a6, a7, a8, a9⟩ := s_addD (d := 5) (x1 := zn 2) (x2 := zn a) (x3 := zn b) (x4 := zn 0) h.n h.cn
      have k72 : ∀ t, t < T 0 0 → m1.1 (71 + 1) t = zo (q.2.2.2 t) := fun t ht => by rw [a3 (71 + 1) (by omega)]; exact c.sc.hs t ht
      have ex : am_c 7 y_Scene_exchange [.ref 71, .int (zn a), .int (zn b)] m1 = some (none, (am_w (am_w m1.1 (71 + 1) a (zo (q.2.2.2 b))) (71 + 1) b (zo (q.2.2.2 a)), m1.2)) := by
        rw [n_Scene_exchange hk]; simp (disch := omega) only [w_ne, w_at, wl_ne, wl_at, wc_ne, wc_at, upd_at, upd_ne, upl_at, upl_ne, cpy_in0, zn_cl, zn_add, zn_mul, zn_sub, zn_pm, br_tt, br_ff, br_ltT, br_ltF, br_leT, br_leF, br_eqT, br_eqF, br_eqs, br_eqm, br_eqm', br_ltm, br_mlt, br_lem, br_mle, br_oiF, br_lgge, br_lgle, br_lggt, br_lglt, br_lgeq, br_zb, br_zb1, bV_s, bI_s, bL_s, zo_n, zo_s, k72]
      have hs' : ∀ t, t < T 0 0 → (am_w (am_w m1.1 (71 + 1) a (zo (q.2.2.2 b))) (71 + 1) b (zo (q.2.2.2 a))) (71 + 1) t = zo (sp_swp q.2.2.2 a b t) := fun t ht => by
        rw [swp_at]
        by_cases e : t = b
        · rw [if_pos e, e]; simp (disch := omega) only [w_ne, w_at, wl_ne, wl_at, wc_ne, wc_at, upd_at, upd_ne, upl_at, upl_ne, cpy_in0, zn_cl, zn_add, zn_mul, zn_sub, zn_pm, br_tt, br_ff, br_ltT, br_ltF, br_leT, br_leF, br_eqT, br_eqF, br_eqs, br_eqm, br_eqm', br_ltm, br_mlt, br_lem, br_mle, br_oiF, br_lgge, br_lgle, br_lggt, br_lglt, br_lgeq, br_zb, br_zb1, bV_s, bI_s, bL_s, zo_n, zo_s]
        · rw [if_neg e]
          by_cases e' : t = a
          · rw [if_pos e', e']; simp (disch := omega) only [w_ne, w_at, wl_ne, wl_at, wc_ne, wc_at, upd_at, upd_ne, upl_at, upl_ne, cpy_in0, zn_cl, zn_add, zn_mul, zn_sub, zn_pm, br_tt, br_ff, br_ltT, br_ltF, br_leT, br_leF, br_eqT, br_eqF, br_eqs, br_eqm, br_eqm', br_ltm, br_mlt, br_lem, br_mle, br_oiF, br_lgge, br_lgle, br_lggt, br_lglt, br_lgeq, br_zb, br_zb1, bV_s, bI_s, bL_s, zo_n, zo_s]
          · rw [if_neg e', ← k72 t ht]; simp (disch := omega) only [w_ne, w_at, wl_ne, wl_at, wc_ne, wc_at, upd_at, upd_ne, upl_at, upl_ne, cpy_in0, zn_cl, zn_add, zn_mul, zn_sub, zn_pm, br_tt, br_ff, br_ltT, br_ltF, br_leT, br_leF, br_eqT, br_eqF, br_eqs, br_eqm, br_eqm', br_ltm, br_mlt, br_lem, br_mle, br_oiF, br_lgge, br_lgle, br_lggt, br_lglt, br_lgeq, br_zb, br_zb1, bV_s, bI_s, bL_s, zo_n, zo_s]
      obtain ⟨t1, n1, m2, b1, b2, b3, b4⟩ := deedB (q' := (q.1, q.2.1, q.2.2.1, sp_swp q.2.2.2 a b)) (k := 2) (a := a) (b := b) (p := 0) (m1' := (am_w (am_w m1.1 (71 + 1) a (zo (q.2.2.2 b))) (71 + 1) b (zo (q.2.2.2 a)), m1.2)) c r h
        ⟨ol, c.qw.om, c.qw.oa, c.qw.nd, c.qw.hu, c.qw.ml, c.qw.ms, hw_swp c.qw.hw ha hb hab⟩
        (by
          show (q.1, q.2.1, q.2.2.1, sp_swp (sp_swp q.2.2.2 a b) a b) = q
          rw [swp_swp])
        (Or.inr (Or.inr (Or.inl ⟨rfl, ha, hb, hab⟩))) a2 a3 a4 a5 ⟨a6, a7, a8, a9⟩ rfl (fun p hp => by simp (disch := omega) only [w_ne, w_at, wl_ne, wl_at, wc_ne, wc_at, upd_at, upd_ne, upl_at, upl_ne, cpy_in0, zn_cl, zn_add, zn_mul, zn_sub, zn_pm, br_tt, br_ff, br_ltT, br_ltF, br_leT, br_leF, br_eqT, br_eqF, br_eqs, br_eqm, br_eqm', br_ltm, br_mlt, br_lem, br_mle, br_oiF, br_lgge, br_lgle, br_lggt, br_lglt, br_lgeq, br_zb, br_zb1, bV_s, bI_s, bL_s, zo_n, zo_s])
        (by
          have s71 : ∀ p', 71 ≤ p' → p' ≤ 77 → p' ≠ 71 + 1 → (am_w (am_w m1.1 (71 + 1) a (zo (q.2.2.2 b))) (71 + 1) b (zo (q.2.2.2 a)), m1.2).1 p' = m.1 p' := fun p' p1 p2 p3 => by simp (disch := omega) only [w_ne, w_at, wl_ne, wl_at, wc_ne, wc_at, upd_at, upd_ne, upl_at, upl_ne, cpy_in0, zn_cl, zn_add, zn_mul, zn_sub, zn_pm, br_tt, br_ff, br_ltT, br_ltF, br_leT, br_leF, br_eqT, br_eqF, br_eqs, br_eqm, br_eqm', br_ltm, br_mlt, br_lem, br_mle, br_oiF, br_lgge, br_lgle, br_lggt, br_lglt, br_lgeq, br_zb, br_zb1, bV_s, bI_s, bL_s, zo_n, zo_s]; exact a3 p' (by omega)
          unfold sn
          rw [s71 71 (by omega) (by omega) (by omega), s71 (71 + 2) (by omega) (by omega) (by omega), s71 (71 + 3) (by omega) (by omega) (by omega), s71 (71 + 4) (by omega) (by omega) (by omega), s71 (71 + 5) (by omega) (by omega) (by omega), s71 (71 + 6) (by omega) (by omega) (by omega)]
          exact ⟨c.sc.n, hs', c.sc.wl, c.sc.ws, c.sc.dy, c.sc.ol, c.sc.os, c.sc.hu, c.sc.ml, c.sc.ms⟩)
        (by simp (disch := omega) only [w_ne, w_at, wl_ne, wl_at, wc_ne, wc_at, upd_at, upd_ne, upl_at, upl_ne, cpy_in0, zn_cl, zn_add, zn_mul, zn_sub, zn_pm, br_tt, br_ff, br_ltT, br_ltF, br_leT, br_leF, br_eqT, br_eqF, br_eqs, br_eqm, br_eqm', br_ltm, br_mlt, br_lem, br_mle, br_oiF, br_lgge, br_lgle, br_lggt, br_lglt, br_lgeq, br_zb, br_zb1, bV_s, bI_s, bL_s, zo_n, zo_s])
      refine ⟨some (.int (zn 1)), (am_w (am_w m1.1 (71 + 1) a (zo (q.2.2.2 b))) (71 + 1) b (zo (q.2.2.2 a)), m1.2), (am_w (am_w m2.1 132 a (m2.1 132 b)) 132 b (m2.1 132 a), m2.2), ?_, ?_, b4 _ rfl ?_ ?_ ?_⟩
      · rw [cS, a1, bV_s, ex, bV_s]
      · rw [rS _ t1 n1, if_neg e3, b1, bV_s]
      · intro p p1 p2; rcases p1 with p1 | p1 <;> simp (disch := omega) only [w_ne, w_at, wl_ne, wl_at, wc_ne, wc_at, upd_at, upd_ne, upl_at, upl_ne, cpy_in0, zn_cl, zn_add, zn_mul, zn_sub, zn_pm, br_tt, br_ff, br_ltT, br_ltF, br_leT, br_leF, br_eqT, br_eqF, br_eqs, br_eqm, br_eqm', br_ltm, br_mlt, br_lem, br_mle, br_oiF, br_lgge, br_lgle, br_lggt, br_lglt, br_lgeq, br_zb, br_zb1, bV_s, bI_s, bL_s, zo_n, zo_s]
      · intro i' _; simp (disch := omega) only [w_ne, w_at, wl_ne, wl_at, wc_ne, wc_at, upd_at, upd_ne, upl_at, upl_ne, cpy_in0, zn_cl, zn_add, zn_mul, zn_sub, zn_pm, br_tt, br_ff, br_ltT, br_ltF, br_leT, br_leF, br_eqT, br_eqF, br_eqs, br_eqm, br_eqm', br_ltm, br_mlt, br_lem, br_mle, br_oiF, br_lgge, br_lgle, br_lggt, br_lglt, br_lgeq, br_zb, br_zb1, bV_s, bI_s, bL_s, zo_n, zo_s]
      · have s132 : ∀ p', 133 ≤ p' → p' ≤ 139 → (am_w (am_w m2.1 132 a (m2.1 132 b)) 132 b (m2.1 132 a), m2.2).1 p' = m2.1 p' := fun p' p1 p2 => by simp (disch := omega) only [w_ne, w_at, wl_ne, wl_at, wc_ne, wc_at, upd_at, upd_ne, upl_at, upl_ne, cpy_in0, zn_cl, zn_add, zn_mul, zn_sub, zn_pm, br_tt, br_ff, br_ltT, br_ltF, br_leT, br_leF, br_eqT, br_eqF, br_eqs, br_eqm, br_eqm', br_ltm, br_mlt, br_lem, br_mle, br_oiF, br_lgge, br_lgle, br_lggt, br_lglt, br_lgeq, br_zb, br_zb1, bV_s, bI_s, bL_s, zo_n, zo_s]
        have s107 : (am_w (am_w m2.1 132 a (m2.1 132 b)) 132 b (m2.1 132 a), m2.2).1 107 = m2.1 107 := by simp (disch := omega) only [w_ne, w_at, wl_ne, wl_at, wc_ne, wc_at, upd_at, upd_ne, upl_at, upl_ne, cpy_in0, zn_cl, zn_add, zn_mul, zn_sub, zn_pm, br_tt, br_ff, br_ltT, br_ltF, br_leT, br_leF, br_eqT, br_eqF, br_eqs, br_eqm, br_eqm', br_ltm, br_mlt, br_lem, br_mle, br_oiF, br_lgge, br_lgle, br_lggt, br_lglt, br_lgeq, br_zb, br_zb1, bV_s, bI_s, bL_s, zo_n, zo_s]
        unfold nR
        rw [s132 133 (by omega) (by omega), s132 134 (by omega) (by omega), s132 135 (by omega) (by omega), s132 136 (by omega) (by omega), s132 137 (by omega) (by omega), s132 138 (by omega) (by omega), s132 139 (by omega) (by omega), s107]
        refine ⟨?_, ?_, b3.wl, b3.ws, b3.dy, ol, b3.os, b3.hu, b3.ml, b3.ms, b3.dr⟩
        · intro t ht
          show (am_w (am_w m2.1 132 a (m2.1 132 b)) 132 b (m2.1 132 a)) 132 t = zo (sp_swp q.2.2.2 a b t)
          rw [swp_at]
          by_cases e : t = b
          · rw [if_pos e, e, ← b3.hs a ha]; simp (disch := omega) only [w_ne, w_at, wl_ne, wl_at, wc_ne, wc_at, upd_at, upd_ne, upl_at, upl_ne, cpy_in0, zn_cl, zn_add, zn_mul, zn_sub, zn_pm, br_tt, br_ff, br_ltT, br_ltF, br_leT, br_leF, br_eqT, br_eqF, br_eqs, br_eqm, br_eqm', br_ltm, br_mlt, br_lem, br_mle, br_oiF, br_lgge, br_lgle, br_lggt, br_lglt, br_lgeq, br_zb, br_zb1, bV_s, bI_s, bL_s, zo_n, zo_s]
          · rw [if_neg e]
            by_cases e' : t = a
            · rw [if_pos e', e', ← b3.hs b hb]; simp (disch := omega) only [w_ne, w_at, wl_ne, wl_at, wc_ne, wc_at, upd_at, upd_ne, upl_at, upl_ne, cpy_in0, zn_cl, zn_add, zn_mul, zn_sub, zn_pm, br_tt, br_ff, br_ltT, br_ltF, br_leT, br_leF, br_eqT, br_eqF, br_eqs, br_eqm, br_eqm', br_ltm, br_mlt, br_lem, br_mle, br_oiF, br_lgge, br_lgle, br_lggt, br_lglt, br_lgeq, br_zb, br_zb1, bV_s, bI_s, bL_s, zo_n, zo_s]
            · rw [if_neg e', ← b3.hs t ht]; simp (disch := omega) only [w_ne, w_at, wl_ne, wl_at, wc_ne, wc_at, upd_at, upd_ne, upl_at, upl_ne, cpy_in0, zn_cl, zn_add, zn_mul, zn_sub, zn_pm, br_tt, br_ff, br_ltT, br_ltF, br_leT, br_leF, br_eqT, br_eqF, br_eqs, br_eqm, br_eqm', br_ltm, br_mlt, br_lem, br_mle, br_oiF, br_lgge, br_lgle, br_lggt, br_lglt, br_lgeq, br_zb, br_zb1, bV_s, bI_s, bL_s, zo_n, zo_s]
        · intro t t1 t2
          have := b3.h5 t t1 t2
          show (am_w (am_w m2.1 132 a (m2.1 132 b)) 132 b (m2.1 132 a)) 132 t = zm
          simp (disch := omega) only [w_ne, w_at, wl_ne, wl_at, wc_ne, wc_at, upd_at, upd_ne, upl_at, upl_ne, cpy_in0, zn_cl, zn_add, zn_mul, zn_sub, zn_pm, br_tt, br_ff, br_ltT, br_ltF, br_leT, br_leF, br_eqT, br_eqF, br_eqs, br_eqm, br_eqm', br_ltm, br_mlt, br_lem, br_mle, br_oiF, br_lgge, br_lgle, br_lggt, br_lglt, br_lgeq, br_zb, br_zb1, bV_s, bI_s, bL_s, zo_n, zo_s]; exact this
  · refine no (some (.int (zn 0))) ?_ ?_
    · rw [n_C_trade, s_are2 c.tc c.tw, bI_s, br_zb, if_neg e1]
    · rw [n_M_trade, s_isThingR c2.tr c.tw, bI_s, br_zb, s_isThingR c2.tr c.tw, bI_s, br_zb, br_eq]
      unfold is2 at e1
      rw [Bool.and_eq_true, Bool.and_eq_true, decide_eq_true_eq] at e1
      by_cases f1 : isN (T 0 0) x = true
      · rw [if_pos f1]
        by_cases f2 : isN (T 0 0) y = true
        · rw [if_pos f2]
          by_cases f3 : x = y
          · rw [if_pos f3]
          · exact absurd ⟨f1, f2, f3⟩ e1
        · rw [if_neg f2]
      · rw [if_neg f1]
