theorem Rest.tap {T : Td} {q : Sq} {w : List Nat} {m m' : am_M} (r : Rest T q w m) (e : ∀ c, c = 4 ∨ 78 ≤ c ∧ c ≤ 84 ∨ 97 ≤ c ∧ c ≤ 100 ∨ 102 ≤ c ∧ c ≤ 106 ∨ c = 109 ∨ c = 148 ∨ 153 ≤ c → m'.1 c = m.1 c) (e0 : ∀ i, i ≠ 2 → m'.1 0 i = m.1 0 i) (e1 : ∀ i, i = 4 ∨ i = 5 ∨ i = 78 ∨ i = 79 ∨ i = 85 ∨ i = 87 ∨ i = 90 ∨ i = 91 → m'.1 107 i = m.1 107 i) (e2 : m'.2 107 92 = m.2 107 92) (ta : tapI m') : Rest T q w m' := by
  refine ⟨ta, ?_, ?_, ?_, ?_, ?_⟩
  · have := r.fa
    unfold fltI at this ⊢
    rw [e1 4 (by omega), e1 5 (by omega), e0 3 (by omega), e0 4 (by omega)]; exact this
  · have := r.cs
    unfold cstI at this ⊢
    rw [e 4 (by omega), e 109 (by omega)]; exact this
  · have := r.im
    unfold imgI at this ⊢
    rw [e0 11 (by omega), e1 87 (by omega)]
    rcases this with h | ⟨h1, h2, q, w, day, num, h3⟩
    · exact Or.inl h
    · exact Or.inr ⟨h1, h2, q, w, day, num, h3.qw, h3.nb, h3.db, h3.c.mono (fun c _ _ => e c (by omega)), by rw [e 78 (by omega)]; exact h3.cn, h3.r.mono (e 154 (by omega)), by rw [e 155 (by omega)]; exact h3.rw, by rw [e1 90 (by omega)]; exact h3.rl, by rw [e1 91 (by omega)]; exact h3.rd, by rw [e2]; exact h3.rn⟩
  · obtain ⟨n, o, S, h⟩ := r.se
    exact ⟨n, o, S, h.n, h.o, h.w0, h.w1, by rw [e 97 (by omega)]; exact h.cn, by rw [e 97 (by omega)]; exact h.co, by rw [e 98 (by omega)]; exact h.c0, by rw [e 100 (by omega)]; exact h.c1, by rw [e 99 (by omega), e 100 (by omega)]; exact h.c2, by rw [e1 78 (by omega)]; exact h.rn, by rw [e1 79 (by omega)]; exact h.ro, by rw [e 148 (by omega)]; exact h.r1, by rw [e 148 (by omega)]; exact h.r2⟩
  · exact r.de.mono (fun c hc => e c (by omega)) (e1 85 (by omega))
theorem k_feed (x1 x2 x3 x4 x5 : Int32) : ask y_C_feed y_M_feed [.int x1, .int x2, .int x3, .int x4, .int x5] := by
  intro m ⟨T, G, F, q, w, day, num, c, r⟩
  obtain ⟨t, X, h⟩ := r.ta
  have t7 := h.t
  by_cases l : t + 20 ≤ 700
  · obtain ⟨m1, a1, a2, a3, a4, a5, a6, a7⟩ := s_put4 (d := 6) (v := x1) (by omega) h.c
    obtain ⟨m2, b1, b2, b3, b4, b5, b6, b7⟩ := s_put4 (d := 6) (v := x2) (by omega) a5
    obtain ⟨m3, c1, c2, c3, c4, c5, c6, c7⟩ := s_put4 (d := 6) (v := x3) (by omega) b5
    obtain ⟨m4, d1, d2, d3, d4, d5, d6, d7⟩ := s_put4 (d := 6) (v := x4) (by omega) c5
    obtain ⟨m5, e1, e2, e3, e4, e5, e6, e7⟩ := s_put4 (d := 6) (v := x5) (by omega) d5
    have f3 : ∀ p, p ≠ 0 → p ≠ 3 → m5.1 p = m.1 p := fun p p1 p2 => by rw [e3 p p1 p2, d3 p p1 p2, c3 p p1 p2, b3 p p1 p2, a3 p p1 p2]
    have f0 : ∀ i, i ≠ 2 → m5.1 0 i = m.1 0 i := fun i hi => by rw [e4 i hi, d4 i hi, c4 i hi, b4 i hi, a4 i hi]
    have fo : ∀ j, j < t → m5.1 3 j = m.1 3 j := fun j hj => by rw [e6 j (by omega), d6 j (by omega), c6 j (by omega), b6 j (by omega), a6 j hj]
    have fl : m5.2 = m.2 := by rw [e2, d2, c2, b2, a2]
    have fn : ∀ j, j < 20 → m5.1 3 (t + j) = vp_nar .byte (bt (wd x1 x2 x3 x4 x5 j) (j % 4)).toInt8.toInt32 := fun j hj => by
      unfold wd
      by_cases g1 : j < 4
      · rw [if_pos g1, e6 _ (by omega), d6 _ (by omega), c6 _ (by omega), b6 _ (by omega), a7 j g1, Nat.mod_eq_of_lt g1]
      by_cases g2 : j < 8
      · rw [if_neg g1, if_pos g2, e6 _ (by omega), d6 _ (by omega), c6 _ (by omega), show t + j = t + 4 + (j % 4) by omega, b7 _ (by omega)]
      by_cases g3 : j < 12
      · rw [if_neg g1, if_neg g2, if_pos g3, e6 _ (by omega), d6 _ (by omega), show t + j = t + 4 + 4 + (j % 4) by omega, c7 _ (by omega)]
      by_cases g4 : j < 16
      · rw [if_neg g1, if_neg g2, if_neg g3, if_pos g4, e6 _ (by omega), show t + j = t + 4 + 4 + 4 + (j % 4) by omega, d7 _ (by omega)]
      · rw [if_neg g1, if_neg g2, if_neg g3, if_neg g4, show t + j = t + 4 + 4 + 4 + 4 + (j % 4) by omega, e7 _ (by omega)]
    obtain ⟨m6, g1, g2, g3, g4, g5, g6, g7⟩ := lp_feedR (d := 7) (x1 := x1) (x2 := x2) (x3 := x3) (x4 := x4) (x5 := x5) l 20 0 29999 none (am_w m5.1 107 2 (zn 0), m5.2) (by omega) (by omega) (by simp (disch := omega) only [w_ne, w_at, wl_ne, wl_at, wc_ne, wc_at, upd_at, upd_ne, upl_at, upl_ne, cpy_in0, zn_cl, zn_add, zn_mul, zn_sub, zn_pm, br_tt, br_ff, br_ltT, br_ltF, br_leT, br_leF, br_eqT, br_eqF, br_eqs, br_eqm, br_eqm', br_ltm, br_mlt, br_lem, br_mle, br_oiF, br_lgge, br_lgle, br_lggt, br_lglt, br_lgeq, br_zb, br_zb1, bV_s, bI_s, bL_s, zo_n, zo_s]; rw [f3 107 (by omega) (by omega)]; exact h.r)
    have k1 : m5.1 107 1 = zn t := by rw [f3 107 (by omega) (by omega)]; exact h.r
    have w3 : ∀ p, p ≠ 0 → p ≠ 3 → p ≠ 107 → p ≠ 108 → m6.1 p = m.1 p := fun p p1 p2 p3 p4 => by rw [g3 p p3 p4]; simp (disch := omega) only [w_ne, w_at, wl_ne, wl_at, wc_ne, wc_at, upd_at, upd_ne, upl_at, upl_ne, cpy_in0, zn_cl, zn_add, zn_mul, zn_sub, zn_pm, br_tt, br_ff, br_ltT, br_ltF, br_leT, br_leF, br_eqT, br_eqF, br_eqs, br_eqm, br_eqm', br_ltm, br_mlt, br_lem, br_mle, br_oiF, br_lgge, br_lgle, br_lggt, br_lglt, br_lgeq, br_zb, br_zb1, bV_s, bI_s, bL_s, zo_n, zo_s]; exact f3 p p1 p2
    have w5 : ∀ p, p = 0 ∨ p = 3 → m6.1 p = m5.1 p := fun p hp => by rw [g3 p (by omega) (by omega)]; simp (disch := omega) only [w_ne, w_at, wl_ne, wl_at, wc_ne, wc_at, upd_at, upd_ne, upl_at, upl_ne, cpy_in0, zn_cl, zn_add, zn_mul, zn_sub, zn_pm, br_tt, br_ff, br_ltT, br_ltF, br_leT, br_leF, br_eqT, br_eqF, br_eqs, br_eqm, br_eqm', br_ltm, br_mlt, br_lem, br_mle, br_oiF, br_lgge, br_lgle, br_lggt, br_lglt, br_lgeq, br_zb, br_zb1, bV_s, bI_s, bL_s, zo_n, zo_s]
    have w7 : ∀ i, i ≠ 1 → i ≠ 2 → m6.1 107 i = m.1 107 i := fun i i1 i2 => by rw [g4 i i1]; simp (disch := omega) only [w_ne, w_at, wl_ne, wl_at, wc_ne, wc_at, upd_at, upd_ne, upl_at, upl_ne, cpy_in0, zn_cl, zn_add, zn_mul, zn_sub, zn_pm, br_tt, br_ff, br_ltT, br_ltF, br_leT, br_leF, br_eqT, br_eqF, br_eqs, br_eqm, br_eqm', br_ltm, br_mlt, br_lem, br_mle, br_oiF, br_lgge, br_lgle, br_lggt, br_lglt, br_lgeq, br_zb, br_zb1, bV_s, bI_s, bL_s, zo_n, zo_s]; rw [f3 107 (by omega) (by omega)]
    refine ⟨some (.int (zn (t + 20))), m5, m6, ?_, ?_, T, G, F, q, w, day, num, c.mono (fun p _ => w3 p (by omega) (by omega) (by omega) (by omega)) (fun p _ => w3 p (by omega) (by omega) (by omega) (by omega)) (fun i _ => w7 i (by omega) (by omega)) (by rw [g2]; show m5.2 107 58 = _; rw [fl]), r.tap (fun p _ => w3 p (by omega) (by omega) (by omega) (by omega)) (fun i hi => by rw [w5 0 (by omega)]; exact f0 i hi) (fun i _ => w7 i (by omega) (by omega)) (by rw [g2]; show m5.2 107 92 = _; rw [fl]) ?_⟩
    · rw [n_C_feed, h.c]; simp (disch := omega) only [w_ne, w_at, wl_ne, wl_at, wc_ne, wc_at, upd_at, upd_ne, upl_at, upl_ne, cpy_in0, zn_cl, zn_add, zn_mul, zn_sub, zn_pm, br_tt, br_ff, br_ltT, br_ltF, br_leT, br_leF, br_eqT, br_eqF, br_eqs, br_eqm, br_eqm', br_ltm, br_mlt, br_lem, br_mle, br_oiF, br_lgge, br_lgle, br_lggt, br_lglt, br_lgeq, br_zb, br_zb1, bV_s, bI_s, bL_s, zo_n, zo_s]
      rw [a1, bV_s, b1, bV_s, c1, bV_s, d1, bV_s, e1, bV_s, e5]
    · rw [n_M_feed, k1]; simp (disch := omega) only [w_ne, w_at, wl_ne, wl_at, wc_ne, wc_at, upd_at, upd_ne, upl_at, upl_ne, cpy_in0, zn_cl, zn_add, zn_mul, zn_sub, zn_pm, br_tt, br_ff, br_ltT, br_ltF, br_leT, br_leF, br_eqT, br_eqF, br_eqs, br_eqm, br_eqm', br_ltm, br_mlt, br_lem, br_mle, br_oiF, br_lgge, br_lgle, br_lggt, br_lglt, br_lgeq, br_zb, br_zb1, bV_s, bI_s, bL_s, zo_n, zo_s]; exact g1
    · refine ⟨t + 20, fun j => if j < t then X j else Classical.choose (by_x (bt (wd x1 x2 x3 x4 x5 (j - t)) ((j - t) % 4))), by omega, ?_, ?_, ?_, g5, ?_⟩
      · intro i hi
        by_cases g : i < t
        · simp only [if_pos g]; exact h.x i g
        · simp only [if_neg g]; exact (Classical.choose_spec (by_x _)).1
      · rw [w5 0 (by omega)]; exact e5
      · intro i hi
        rw [w5 3 (by omega)]
        by_cases g : i < t
        · simp only [if_pos g]; rw [fo i g]; exact h.cb i g
        · simp only [if_neg g]
          rw [← (Classical.choose_spec (by_x _)).2.2]
          have := fn (i - t) (by omega)
          rw [show t + (i - t) = i by omega] at this; exact this
      · intro i hi
        by_cases g : i < t
        · simp only [if_pos g]; rw [g6 i (by omega)]; simp (disch := omega) only [w_ne, w_at, wl_ne, wl_at, wc_ne, wc_at, upd_at, upd_ne, upl_at, upl_ne, cpy_in0, zn_cl, zn_add, zn_mul, zn_sub, zn_pm, br_tt, br_ff, br_ltT, br_ltF, br_leT, br_leF, br_eqT, br_eqF, br_eqs, br_eqm, br_eqm', br_ltm, br_mlt, br_lem, br_mle, br_oiF, br_lgge, br_lgle, br_lggt, br_lglt, br_lgeq, br_zb, br_zb1, bV_s, bI_s, bL_s, zo_n, zo_s]; rw [f3 108 (by omega) (by omega)]; exact h.rb i g
        · simp only [if_neg g]
          rw [← (Classical.choose_spec (by_x _)).2.1]
          have := g7 (i - t) (by omega) (by omega)
          rw [show t + (i - t) = i by omega] at this; exact this
  · refine ⟨some (.int zm), m, (am_w m.1 107 2 (zn 0), m.2), ?_, ?_, T, G, F, q, w, day, num, c.qR (fqR_th m (zn 0)), r.qR (fqR_th m (zn 0))⟩
    · rw [n_C_feed, h.c]; simp (disch := omega) only [w_ne, w_at, wl_ne, wl_at, wc_ne, wc_at, upd_at, upd_ne, upl_at, upl_ne, cpy_in0, zn_cl, zn_add, zn_mul, zn_sub, zn_pm, br_tt, br_ff, br_ltT, br_ltF, br_leT, br_leF, br_eqT, br_eqF, br_eqs, br_eqm, br_eqm', br_ltm, br_mlt, br_lem, br_mle, br_oiF, br_lgge, br_lgle, br_lggt, br_lglt, br_lgeq, br_zb, br_zb1, bV_s, bI_s, bL_s, zo_n, zo_s]
    · rw [n_M_feed, h.r]; simp (disch := omega) only [w_ne, w_at, wl_ne, wl_at, wc_ne, wc_at, upd_at, upd_ne, upl_at, upl_ne, cpy_in0, zn_cl, zn_add, zn_mul, zn_sub, zn_pm, br_tt, br_ff, br_ltT, br_ltF, br_leT, br_leF, br_eqT, br_eqF, br_eqs, br_eqm, br_eqm', br_ltm, br_mlt, br_lem, br_mle, br_oiF, br_lgge, br_lgle, br_lggt, br_lglt, br_lgeq, br_zb, br_zb1, bV_s, bI_s, bL_s, zo_n, zo_s]
