/-! a deed is written down -/
theorem lp_rem {d : Nat} (r : Nat) : ∀ (i f : Nat) (m : am_M), i + r = 684 → r < f →
    ∃ f' m', r_M_remember_11 d f (zn i) m = r_M_remember_11 d f' (zn 684) m' ∧ f ≤ f' + r ∧ m'.2 = m.2 ∧ (∀ c, c ≠ 153 → m'.1 c = m.1 c) ∧ (∀ q, i ≤ q → q < 684 → m'.1 153 q = m.1 153 (q + 36)) ∧ ∀ q, q < i ∨ 684 ≤ q → m'.1 153 q = m.1 153 q := by
  induction r with
  | zero =>
    intro i f m h1 h2
    obtain rfl : i = 684 := by omega
    exact ⟨f, m, rfl, by omega, rfl, fun _ _ => rfl, fun q _ _ => by omega, fun _ _ => rfl⟩
  | succ r ih =>
    intro i f m h1 h2
    obtain ⟨f, rfl⟩ : ∃ g, f = g + 1 := ⟨f - 1, by omega⟩
    obtain ⟨f', m', b1, b0, b2, b3, b4, b5⟩ := ih (i + 1) f (am_w m.1 153 i (m.1 153 (i + 36)), m.2) (by omega) (by omega)
    refine ⟨f', m', ?_, by omega, b2, fun c hc => ?_, fun q q1 q2 => ?_, fun q hq => ?_⟩
    · rw [e_M_remember_11]; simp (disch := omega) only [w_ne, w_at, wl_ne, wl_at, wc_ne, wc_at, upd_at, upd_ne, upl_at, upl_ne, cpy_in0, zn_cl, zn_add, zn_mul, zn_sub, zn_pm, br_tt, br_ff, br_ltT, br_ltF, br_leT, br_leF, br_eqT, br_eqF, br_eqs, br_eqm, br_eqm', br_ltm, br_mlt, br_lem, br_mle, br_oiF, br_lgge, br_lgle, br_lggt, br_lglt, br_lgeq, br_zb, br_zb1, bV_s, bI_s, bL_s, zo_n, zo_s]; exact b1
    · rw [b3 c hc]; simp (disch := omega) only [w_ne, w_at, wl_ne, wl_at, wc_ne, wc_at, upd_at, upd_ne, upl_at, upl_ne, cpy_in0, zn_cl, zn_add, zn_mul, zn_sub, zn_pm, br_tt, br_ff, br_ltT, br_ltF, br_leT, br_leF, br_eqT, br_eqF, br_eqs, br_eqm, br_eqm', br_ltm, br_mlt, br_lem, br_mle, br_oiF, br_lgge, br_lgle, br_lggt, br_lglt, br_lgeq, br_zb, br_zb1, bV_s, bI_s, bL_s, zo_n, zo_s]
    · by_cases e : q = i
      · subst e; rw [b5 q (by omega)]; simp (disch := omega) only [w_ne, w_at, wl_ne, wl_at, wc_ne, wc_at, upd_at, upd_ne, upl_at, upl_ne, cpy_in0, zn_cl, zn_add, zn_mul, zn_sub, zn_pm, br_tt, br_ff, br_ltT, br_ltF, br_leT, br_leF, br_eqT, br_eqF, br_eqs, br_eqm, br_eqm', br_ltm, br_mlt, br_lem, br_mle, br_oiF, br_lgge, br_lgle, br_lggt, br_lglt, br_lgeq, br_zb, br_zb1, bV_s, bI_s, bL_s, zo_n, zo_s]
      · rw [b4 q (by omega) q2]; simp (disch := omega) only [w_ne, w_at, wl_ne, wl_at, wc_ne, wc_at, upd_at, upd_ne, upl_at, upl_ne, cpy_in0, zn_cl, zn_add, zn_mul, zn_sub, zn_pm, br_tt, br_ff, br_ltT, br_ltF, br_leT, br_leF, br_eqT, br_eqF, br_eqs, br_eqm, br_eqm', br_ltm, br_mlt, br_lem, br_mle, br_oiF, br_lgge, br_lgle, br_lggt, br_lglt, br_lgeq, br_zb, br_zb1, bV_s, bI_s, bL_s, zo_n, zo_s]
    · rw [b5 q (by omega)]; rcases hq with hq | hq <;> simp (disch := omega) only [w_ne, w_at, wl_ne, wl_at, wc_ne, wc_at, upd_at, upd_ne, upl_at, upl_ne, cpy_in0, zn_cl, zn_add, zn_mul, zn_sub, zn_pm, br_tt, br_ff, br_ltT, br_ltF, br_leT, br_leF, br_eqT, br_eqF, br_eqs, br_eqm, br_eqm', br_ltm, br_mlt, br_lem, br_mle, br_oiF, br_lgge, br_lgle, br_lggt, br_lglt, br_lgeq, br_zb, br_zb1, bV_s, bI_s, bL_s, zo_n, zo_s]
theorem nR.r107 {T : Td} {q : Sq} {w : List Nat} {day num : Nat} {m m' : am_M} (s : nR T q.1 q.2.1 q.2.2.1 q.2.2.2 w day num m) (e : ∀ c, 132 ≤ c → c ≤ 139 → m'.1 c = m.1 c) (e1 : m'.1 107 55 = m.1 107 55) (e2 : m'.2 107 58 = m.2 107 58) : nR T q.1 q.2.1 q.2.2.1 q.2.2.2 w day num m' := by
  unfold nR
  rw [e 132 (by omega) (by omega), e 133 (by omega) (by omega), e 134 (by omega) (by omega), e 135 (by omega) (by omega), e 136 (by omega) (by omega), e 137 (by omega) (by omega), e 138 (by omega) (by omega), e 139 (by omega) (by omega), e1, e2]
  exact s
theorem s_remember {T : Td} {q : Sq} {w : List Nat} {day num n d : Nat} {m : am_M} (W : tW T) (hm : q.2.2.1.length ≤ 10) (s : nR T q.1 q.2.1 q.2.2.1 q.2.2.2 w day num m) (hn : n ≤ 20) (h : m.1 107 85 = zn n) : ∃ m', am_c (d + 2) y_M_remember [.ref 107] m = some (none, m') ∧ m'.2 = m.2 ∧ (∀ c, c ≠ 107 → c ≠ 153 → m'.1 c = m.1 c) ∧ (∀ i, i ≠ 85 → m'.1 107 i = m.1 107 i) ∧ m'.1 107 85 = zn (min n 19 + 1) ∧ snp T 153 (36 * min n 19) q m' ∧ ∀ j, j < 36 * min n 19 → m'.1 153 j = m.1 153 (j + 36 * (n - 19)) := by
  by_cases e : n = 20
  · subst e
    obtain ⟨f', m1, a1, a0, a2, a3, a4, a5⟩ := lp_rem (d := d + 1) 684 0 29999 m (by omega) (by omega)
    obtain ⟨f, rfl⟩ : ∃ g, f' = g + 1 := ⟨f' - 1, by omega⟩
    have s1 : nR T q.1 q.2.1 q.2.2.1 q.2.2.2 w day num (am_w m1.1 107 85 (zn 19), m1.2) := s.r107 (fun c _ _ => by simp (disch := omega) only [w_ne, w_at, wl_ne, wl_at, wc_ne, wc_at, upd_at, upd_ne, upl_at, upl_ne, cpy_in0, zn_cl, zn_add, zn_mul, zn_sub, zn_pm, br_tt, br_ff, br_ltT, br_ltF, br_leT, br_leF, br_eqT, br_eqF, br_eqs, br_eqm, br_eqm', br_ltm, br_mlt, br_lem, br_mle, br_oiF, br_lgge, br_lgle, br_lggt, br_lglt, br_lgeq, br_zb, br_zb1, bV_s, bI_s, bL_s, zo_n, zo_s]; exact a3 c (by omega)) (by simp (disch := omega) only [w_ne, w_at, wl_ne, wl_at, wc_ne, wc_at, upd_at, upd_ne, upl_at, upl_ne, cpy_in0, zn_cl, zn_add, zn_mul, zn_sub, zn_pm, br_tt, br_ff, br_ltT, br_ltF, br_leT, br_leF, br_eqT, br_eqF, br_eqs, br_eqm, br_eqm', br_ltm, br_mlt, br_lem, br_mle, br_oiF, br_lgge, br_lgle, br_lggt, br_lglt, br_lgeq, br_zb, br_zb1, bV_s, bI_s, bL_s, zo_n, zo_s]; rw [a3 107 (by omega)]) (by show m1.2 107 58 = _; rw [a2])
    obtain ⟨m2, b1, b2, b3, b4, b5⟩ := s_put153 (b := 684) (d := d) W (by omega) hm s1
    have k85 : m1.1 107 85 = zn 20 := by rw [a3 107 (by omega)]; exact h
    have l85 : m2.1 107 85 = zn 19 := by rw [b4 107 (by omega)]; simp (disch := omega) only [w_ne, w_at, wl_ne, wl_at, wc_ne, wc_at, upd_at, upd_ne, upl_at, upl_ne, cpy_in0, zn_cl, zn_add, zn_mul, zn_sub, zn_pm, br_tt, br_ff, br_ltT, br_ltF, br_leT, br_leF, br_eqT, br_eqF, br_eqs, br_eqm, br_eqm', br_ltm, br_mlt, br_lem, br_mle, br_oiF, br_lgge, br_lgle, br_lggt, br_lglt, br_lgeq, br_zb, br_zb1, bV_s, bI_s, bL_s, zo_n, zo_s]
    refine ⟨(am_w m2.1 107 85 (zn 20), m2.2), ?_, by show m2.2 = _; rw [b3, a2], fun c c1 c2 => ?_, fun i hi => ?_, by simp (disch := omega) only [w_ne, w_at, wl_ne, wl_at, wc_ne, wc_at, upd_at, upd_ne, upl_at, upl_ne, cpy_in0, zn_cl, zn_add, zn_mul, zn_sub, zn_pm, br_tt, br_ff, br_ltT, br_ltF, br_leT, br_leF, br_eqT, br_eqF, br_eqs, br_eqm, br_eqm', br_ltm, br_mlt, br_lem, br_mle, br_oiF, br_lgge, br_lgle, br_lggt, br_lglt, br_lgeq, br_zb, br_zb1, bV_s, bI_s, bL_s, zo_n, zo_s]; rfl, ?_, fun j hj => ?_⟩
    · rw [n_M_remember, h, br_eqT rfl, a1, e_M_remember_11, k85]
      simp (disch := omega) only [w_ne, w_at, wl_ne, wl_at, wc_ne, wc_at, upd_at, upd_ne, upl_at, upl_ne, cpy_in0, zn_cl, zn_add, zn_mul, zn_sub, zn_pm, br_tt, br_ff, br_ltT, br_ltF, br_leT, br_leF, br_eqT, br_eqF, br_eqs, br_eqm, br_eqm', br_ltm, br_mlt, br_lem, br_mle, br_oiF, br_lgge, br_lgle, br_lggt, br_lglt, br_lgeq, br_zb, br_zb1, bV_s, bI_s, bL_s, zo_n, zo_s]
      rw [b1, bV_s, l85]; simp (disch := omega) only [w_ne, w_at, wl_ne, wl_at, wc_ne, wc_at, upd_at, upd_ne, upl_at, upl_ne, cpy_in0, zn_cl, zn_add, zn_mul, zn_sub, zn_pm, br_tt, br_ff, br_ltT, br_ltF, br_leT, br_leF, br_eqT, br_eqF, br_eqs, br_eqm, br_eqm', br_ltm, br_mlt, br_lem, br_mle, br_oiF, br_lgge, br_lgle, br_lggt, br_lglt, br_lgeq, br_zb, br_zb1, bV_s, bI_s, bL_s, zo_n, zo_s]
    · simp (disch := omega) only [w_ne, w_at, wl_ne, wl_at, wc_ne, wc_at, upd_at, upd_ne, upl_at, upl_ne, cpy_in0, zn_cl, zn_add, zn_mul, zn_sub, zn_pm, br_tt, br_ff, br_ltT, br_ltF, br_leT, br_leF, br_eqT, br_eqF, br_eqs, br_eqm, br_eqm', br_ltm, br_mlt, br_lem, br_mle, br_oiF, br_lgge, br_lgle, br_lggt, br_lglt, br_lgeq, br_zb, br_zb1, bV_s, bI_s, bL_s, zo_n, zo_s]; rw [b4 c c2]; simp (disch := omega) only [w_ne, w_at, wl_ne, wl_at, wc_ne, wc_at, upd_at, upd_ne, upl_at, upl_ne, cpy_in0, zn_cl, zn_add, zn_mul, zn_sub, zn_pm, br_tt, br_ff, br_ltT, br_ltF, br_leT, br_leF, br_eqT, br_eqF, br_eqs, br_eqm, br_eqm', br_ltm, br_mlt, br_lem, br_mle, br_oiF, br_lgge, br_lgle, br_lggt, br_lglt, br_lgeq, br_zb, br_zb1, bV_s, bI_s, bL_s, zo_n, zo_s]; exact a3 c c2
    · simp (disch := omega) only [w_ne, w_at, wl_ne, wl_at, wc_ne, wc_at, upd_at, upd_ne, upl_at, upl_ne, cpy_in0, zn_cl, zn_add, zn_mul, zn_sub, zn_pm, br_tt, br_ff, br_ltT, br_ltF, br_leT, br_leF, br_eqT, br_eqF, br_eqs, br_eqm, br_eqm', br_ltm, br_mlt, br_lem, br_mle, br_oiF, br_lgge, br_lgle, br_lggt, br_lglt, br_lgeq, br_zb, br_zb1, bV_s, bI_s, bL_s, zo_n, zo_s]; rw [b4 107 (by omega)]; simp (disch := omega) only [w_ne, w_at, wl_ne, wl_at, wc_ne, wc_at, upd_at, upd_ne, upl_at, upl_ne, cpy_in0, zn_cl, zn_add, zn_mul, zn_sub, zn_pm, br_tt, br_ff, br_ltT, br_ltF, br_leT, br_leF, br_eqT, br_eqF, br_eqs, br_eqm, br_eqm', br_ltm, br_mlt, br_lem, br_mle, br_oiF, br_lgge, br_lgle, br_lggt, br_lglt, br_lgeq, br_zb, br_zb1, bV_s, bI_s, bL_s, zo_n, zo_s]; rw [a3 107 (by omega)]
    · exact b2.mono (by simp (disch := omega) only [w_ne, w_at, wl_ne, wl_at, wc_ne, wc_at, upd_at, upd_ne, upl_at, upl_ne, cpy_in0, zn_cl, zn_add, zn_mul, zn_sub, zn_pm, br_tt, br_ff, br_ltT, br_ltF, br_leT, br_leF, br_eqT, br_eqF, br_eqs, br_eqm, br_eqm', br_ltm, br_mlt, br_lem, br_mle, br_oiF, br_lgge, br_lgle, br_lggt, br_lglt, br_lgeq, br_zb, br_zb1, bV_s, bI_s, bL_s, zo_n, zo_s])
    · simp (disch := omega) only [w_ne, w_at, wl_ne, wl_at, wc_ne, wc_at, upd_at, upd_ne, upl_at, upl_ne, cpy_in0, zn_cl, zn_add, zn_mul, zn_sub, zn_pm, br_tt, br_ff, br_ltT, br_ltF, br_leT, br_leF, br_eqT, br_eqF, br_eqs, br_eqm, br_eqm', br_ltm, br_mlt, br_lem, br_mle, br_oiF, br_lgge, br_lgle, br_lggt, br_lglt, br_lgeq, br_zb, br_zb1, bV_s, bI_s, bL_s, zo_n, zo_s]; rw [b5 j (by omega)]; simp (disch := omega) only [w_ne, w_at, wl_ne, wl_at, wc_ne, wc_at, upd_at, upd_ne, upl_at, upl_ne, cpy_in0, zn_cl, zn_add, zn_mul, zn_sub, zn_pm, br_tt, br_ff, br_ltT, br_ltF, br_leT, br_leF, br_eqT, br_eqF, br_eqs, br_eqm, br_eqm', br_ltm, br_mlt, br_lem, br_mle, br_oiF, br_lgge, br_lgle, br_lggt, br_lglt, br_lgeq, br_zb, br_zb1, bV_s, bI_s, bL_s, zo_n, zo_s]; rw [a4 j (by omega) (by omega)]
  · obtain ⟨m2, b1, b2, b3, b4, b5⟩ := s_put153 (b := 36 * n) (d := d) W (by omega) hm s
    have l85 : m2.1 107 85 = zn n := by rw [b4 107 (by omega)]; exact h
    have e1 : min n 19 = n := by omega
    have e2 : n - 19 = 0 := by omega
    rw [e1, e2]
    refine ⟨(am_w m2.1 107 85 (zn (n + 1)), m2.2), ?_, b3, fun c c1 c2 => ?_, fun i hi => ?_, by simp (disch := omega) only [w_ne, w_at, wl_ne, wl_at, wc_ne, wc_at, upd_at, upd_ne, upl_at, upl_ne, cpy_in0, zn_cl, zn_add, zn_mul, zn_sub, zn_pm, br_tt, br_ff, br_ltT, br_ltF, br_leT, br_leF, br_eqT, br_eqF, br_eqs, br_eqm, br_eqm', br_ltm, br_mlt, br_lem, br_mle, br_oiF, br_lgge, br_lgle, br_lggt, br_lglt, br_lgeq, br_zb, br_zb1, bV_s, bI_s, bL_s, zo_n, zo_s], ?_, fun j hj => ?_⟩
    · rw [n_M_remember, h, br_eqF (by omega) (by omega) (by omega)]
      simp (disch := omega) only [w_ne, w_at, wl_ne, wl_at, wc_ne, wc_at, upd_at, upd_ne, upl_at, upl_ne, cpy_in0, zn_cl, zn_add, zn_mul, zn_sub, zn_pm, br_tt, br_ff, br_ltT, br_ltF, br_leT, br_leF, br_eqT, br_eqF, br_eqs, br_eqm, br_eqm', br_ltm, br_mlt, br_lem, br_mle, br_oiF, br_lgge, br_lgle, br_lggt, br_lglt, br_lgeq, br_zb, br_zb1, bV_s, bI_s, bL_s, zo_n, zo_s]
      rw [b1, bV_s, l85]; simp (disch := omega) only [w_ne, w_at, wl_ne, wl_at, wc_ne, wc_at, upd_at, upd_ne, upl_at, upl_ne, cpy_in0, zn_cl, zn_add, zn_mul, zn_sub, zn_pm, br_tt, br_ff, br_ltT, br_ltF, br_leT, br_leF, br_eqT, br_eqF, br_eqs, br_eqm, br_eqm', br_ltm, br_mlt, br_lem, br_mle, br_oiF, br_lgge, br_lgle, br_lggt, br_lglt, br_lgeq, br_zb, br_zb1, bV_s, bI_s, bL_s, zo_n, zo_s]
    · simp (disch := omega) only [w_ne, w_at, wl_ne, wl_at, wc_ne, wc_at, upd_at, upd_ne, upl_at, upl_ne, cpy_in0, zn_cl, zn_add, zn_mul, zn_sub, zn_pm, br_tt, br_ff, br_ltT, br_ltF, br_leT, br_leF, br_eqT, br_eqF, br_eqs, br_eqm, br_eqm', br_ltm, br_mlt, br_lem, br_mle, br_oiF, br_lgge, br_lgle, br_lggt, br_lglt, br_lgeq, br_zb, br_zb1, bV_s, bI_s, bL_s, zo_n, zo_s]; rw [b4 c c2]
    · simp (disch := omega) only [w_ne, w_at, wl_ne, wl_at, wc_ne, wc_at, upd_at, upd_ne, upl_at, upl_ne, cpy_in0, zn_cl, zn_add, zn_mul, zn_sub, zn_pm, br_tt, br_ff, br_ltT, br_ltF, br_leT, br_leF, br_eqT, br_eqF, br_eqs, br_eqm, br_eqm', br_ltm, br_mlt, br_lem, br_mle, br_oiF, br_lgge, br_lgle, br_lggt, br_lglt, br_lgeq, br_zb, br_zb1, bV_s, bI_s, bL_s, zo_n, zo_s]; rw [b4 107 (by omega)]
    · exact b2.mono (by simp (disch := omega) only [w_ne, w_at, wl_ne, wl_at, wc_ne, wc_at, upd_at, upd_ne, upl_at, upl_ne, cpy_in0, zn_cl, zn_add, zn_mul, zn_sub, zn_pm, br_tt, br_ff, br_ltT, br_ltF, br_leT, br_leF, br_eqT, br_eqF, br_eqs, br_eqm, br_eqm', br_ltm, br_mlt, br_lem, br_mle, br_oiF, br_lgge, br_lgle, br_lggt, br_lglt, br_lgeq, br_zb, br_zb1, bV_s, bI_s, bL_s, zo_n, zo_s])
    · simp (disch := omega) only [w_ne, w_at, wl_ne, wl_at, wc_ne, wc_at, upd_at, upd_ne, upl_at, upl_ne, cpy_in0, zn_cl, zn_add, zn_mul, zn_sub, zn_pm, br_tt, br_ff, br_ltT, br_ltF, br_leT, br_leF, br_eqT, br_eqF, br_eqs, br_eqm, br_eqm', br_ltm, br_mlt, br_lem, br_mle, br_oiF, br_lgge, br_lgle, br_lggt, br_lglt, br_lgeq, br_zb, br_zb1, bV_s, bI_s, bL_s, zo_n, zo_s]; rw [b5 j (by omega)]; rfl
theorem s_addD {n d : Nat} {x1 x2 x3 x4 : Int32} {m : am_M} (hn : n ≤ 20) (h : m.1 102 4 = zn n) : ∃ m', am_c (d + 2) y_Deeds_add [.ref 102, .int x1, .int x2, .int x3, .int x4] m = some (none, m') ∧ m'.2 = m.2 ∧ (∀ c, c < 102 ∨ 106 < c → m'.1 c = m.1 c) ∧ m'.1 102 4 = zn (min n 19 + 1) ∧ (∀ j, j < min n 19 → m'.1 103 j = m.1 103 (j + (n - 19)) ∧ m'.1 104 j = m.1 104 (j + (n - 19)) ∧ m'.1 105 j = m.1 105 (j + (n - 19)) ∧ m'.1 106 j = m.1 106 (j + (n - 19))) ∧ m'.1 103 (min n 19) = x1 ∧ m'.1 104 (min n 19) = x2 ∧ m'.1 105 (min n 19) = x3 ∧ m'.1 106 (min n 19) = x4 := by
  by_cases e : n = 20
  · subst e
    refine ⟨(am_w (am_w (am_w (am_w (am_w (am_wc (am_wc (am_wc (am_wc (am_w m.1 102 4 (zn 19)) 103 103 1 0 19) 104 104 1 0 19) 105 105 1 0 19) 106 106 1 0 19) 103 19 x1) 104 19 x2) 105 19 x3) 106 19 x4) 102 4 (zn 20), m.2), ?_, rfl, fun c hc => ?_, by simp (disch := omega) only [w_ne, w_at, wl_ne, wl_at, wc_ne, wc_at, upd_at, upd_ne, upl_at, upl_ne, cpy_in0, zn_cl, zn_add, zn_mul, zn_sub, zn_pm, br_tt, br_ff, br_ltT, br_ltF, br_leT, br_leF, br_eqT, br_eqF, br_eqs, br_eqm, br_eqm', br_ltm, br_mlt, br_lem, br_mle, br_oiF, br_lgge, br_lgle, br_lggt, br_lglt, br_lgeq, br_zb, br_zb1, bV_s, bI_s, bL_s, zo_n, zo_s]; rfl, fun j hj => ?_, ?_, ?_, ?_, ?_⟩
    · rw [n_Deeds_add, h, br_ltF (by omega) (by omega), n_Deeds_forgetOldest, bV_s]; simp (disch := omega) only [w_ne, w_at, wl_ne, wl_at, wc_ne, wc_at, upd_at, upd_ne, upl_at, upl_ne, cpy_in0, zn_cl, zn_add, zn_mul, zn_sub, zn_pm, br_tt, br_ff, br_ltT, br_ltF, br_leT, br_leF, br_eqT, br_eqF, br_eqs, br_eqm, br_eqm', br_ltm, br_mlt, br_lem, br_mle, br_oiF, br_lgge, br_lgle, br_lggt, br_lglt, br_lgeq, br_zb, br_zb1, bV_s, bI_s, bL_s, zo_n, zo_s]
    · rcases hc with hc | hc <;> simp (disch := omega) only [w_ne, w_at, wl_ne, wl_at, wc_ne, wc_at, upd_at, upd_ne, upl_at, upl_ne, cpy_in0, zn_cl, zn_add, zn_mul, zn_sub, zn_pm, br_tt, br_ff, br_ltT, br_ltF, br_leT, br_leF, br_eqT, br_eqF, br_eqs, br_eqm, br_eqm', br_ltm, br_mlt, br_lem, br_mle, br_oiF, br_lgge, br_lgle, br_lggt, br_lglt, br_lgeq, br_zb, br_zb1, bV_s, bI_s, bL_s, zo_n, zo_s]
    · have hj : j < 19 := by omega
      have e0 : 1 + (j - 0) = j + (20 - 19) := by omega
      simp (disch := omega) only [w_ne, w_at, wl_ne, wl_at, wc_ne, wc_at, upd_at, upd_ne, upl_at, upl_ne, cpy_in0, zn_cl, zn_add, zn_mul, zn_sub, zn_pm, br_tt, br_ff, br_ltT, br_ltF, br_leT, br_leF, br_eqT, br_eqF, br_eqs, br_eqm, br_eqm', br_ltm, br_mlt, br_lem, br_mle, br_oiF, br_lgge, br_lgle, br_lggt, br_lglt, br_lgeq, br_zb, br_zb1, bV_s, bI_s, bL_s, zo_n, zo_s, cpy_in, e0, and_self]
    all_goals
      rw [show min 20 19 = 19 from rfl]; simp (disch := omega) only [w_ne, w_at, wl_ne, wl_at, wc_ne, wc_at, upd_at, upd_ne, upl_at, upl_ne, cpy_in0, zn_cl, zn_add, zn_mul, zn_sub, zn_pm, br_tt, br_ff, br_ltT, br_ltF, br_leT, br_leF, br_eqT, br_eqF, br_eqs, br_eqm, br_eqm', br_ltm, br_mlt, br_lem, br_mle, br_oiF, br_lgge, br_lgle, br_lggt, br_lglt, br_lgeq, br_zb, br_zb1, bV_s, bI_s, bL_s, zo_n, zo_s]
  · have e1 : min n 19 = n := by omega
    have e2 : n - 19 = 0 := by omega
    rw [e1, e2]
    refine ⟨(am_w (am_w (am_w (am_w (am_w m.1 103 n x1) 104 n x2) 105 n x3) 106 n x4) 102 4 (zn (n + 1)), m.2), ?_, rfl, fun c hc => ?_, by simp (disch := omega) only [w_ne, w_at, wl_ne, wl_at, wc_ne, wc_at, upd_at, upd_ne, upl_at, upl_ne, cpy_in0, zn_cl, zn_add, zn_mul, zn_sub, zn_pm, br_tt, br_ff, br_ltT, br_ltF, br_leT, br_leF, br_eqT, br_eqF, br_eqs, br_eqm, br_eqm', br_ltm, br_mlt, br_lem, br_mle, br_oiF, br_lgge, br_lgle, br_lggt, br_lglt, br_lgeq, br_zb, br_zb1, bV_s, bI_s, bL_s, zo_n, zo_s], fun j hj => ?_, ?_, ?_, ?_, ?_⟩
    · rw [n_Deeds_add, h]; simp (disch := omega) only [w_ne, w_at, wl_ne, wl_at, wc_ne, wc_at, upd_at, upd_ne, upl_at, upl_ne, cpy_in0, zn_cl, zn_add, zn_mul, zn_sub, zn_pm, br_tt, br_ff, br_ltT, br_ltF, br_leT, br_leF, br_eqT, br_eqF, br_eqs, br_eqm, br_eqm', br_ltm, br_mlt, br_lem, br_mle, br_oiF, br_lgge, br_lgle, br_lggt, br_lglt, br_lgeq, br_zb, br_zb1, bV_s, bI_s, bL_s, zo_n, zo_s]
    · rcases hc with hc | hc <;> simp (disch := omega) only [w_ne, w_at, wl_ne, wl_at, wc_ne, wc_at, upd_at, upd_ne, upl_at, upl_ne, cpy_in0, zn_cl, zn_add, zn_mul, zn_sub, zn_pm, br_tt, br_ff, br_ltT, br_ltF, br_leT, br_leF, br_eqT, br_eqF, br_eqs, br_eqm, br_eqm', br_ltm, br_mlt, br_lem, br_mle, br_oiF, br_lgge, br_lgle, br_lggt, br_lglt, br_lgeq, br_zb, br_zb1, bV_s, bI_s, bL_s, zo_n, zo_s]
    · simp (disch := omega) only [w_ne, w_at, wl_ne, wl_at, wc_ne, wc_at, upd_at, upd_ne, upl_at, upl_ne, cpy_in0, zn_cl, zn_add, zn_mul, zn_sub, zn_pm, br_tt, br_ff, br_ltT, br_ltF, br_leT, br_leF, br_eqT, br_eqF, br_eqs, br_eqm, br_eqm', br_ltm, br_mlt, br_lem, br_mle, br_oiF, br_lgge, br_lgle, br_lggt, br_lglt, br_lgeq, br_zb, br_zb1, bV_s, bI_s, bL_s, zo_n, zo_s, Nat.add_zero, and_self]
    all_goals simp (disch := omega) only [w_ne, w_at, wl_ne, wl_at, wc_ne, wc_at, upd_at, upd_ne, upl_at, upl_ne, cpy_in0, zn_cl, zn_add, zn_mul, zn_sub, zn_pm, br_tt, br_ff, br_ltT, br_ltF, br_leT, br_leF, br_eqT, br_eqF, br_eqs, br_eqm, br_eqm', br_ltm, br_mlt, br_lem, br_mle, br_oiF, br_lgge, br_lgle, br_lggt, br_lglt, br_lgeq, br_zb, br_zb1, bV_s, bI_s, bL_s, zo_n, zo_s]
theorem snp.shift {T : Td} {j s n : Nat} {q : Sq} {m m' : am_M} (W : tW T) (hm : q.2.2.1.length ≤ 10) (h : snp T 153 (36 * (j + s)) q m) (hj : j < n) (e : ∀ i, i < 36 * n → m'.1 153 i = m.1 153 (i + 36 * s)) : snp T 153 (36 * j) q m' := by
  have := W.n; have := W.L
  have e' : ∀ i, i < 36 → m'.1 153 (36 * j + i) = m.1 153 (36 * (j + s) + i) := fun i hi => by
    rw [e _ (by omega), show 36 * j + i + 36 * s = 36 * (j + s) + i by omega]
  refine ⟨?_, ?_, ?_, ?_, ?_, ?_⟩
  · intro i hi; rw [e' i (by omega)]; exact h.hs i hi
  · intro i i1 i2; rw [e' i (by omega)]; exact h.h5 i i1 i2
  · intro i hi; rw [Nat.add_assoc, e' _ (by omega), ← Nat.add_assoc]; exact h.hu i hi
  · intro i hi; rw [Nat.add_assoc, e' _ (by omega), ← Nat.add_assoc]; exact h.os i hi
  · intro i hi; rw [Nat.add_assoc, e' _ (by omega), ← Nat.add_assoc, Nat.add_assoc (36 * j) 25, e' _ (by omega), ← Nat.add_assoc]; exact h.ms i hi
  · rw [e' 35 (by omega)]; exact h.ml
theorem deed_inv {T G F : Td} {q q' : Sq} {w : List Nat} {day num n k a b p : Nat} {D : Td} {H : Nat → Sq} {m m2 : am_M} (c : Core T G F q w day num m) (r : Rest T q w m) (h : dedX T w q n D H m) (qw : qW T w q') (hu : unD k a b p q' = q) (hf : wfD T k a b p q')
    (e1 : ∀ c, c < 71 ∨ 77 < c ∧ c < 102 ∨ 107 < c ∧ c < 132 ∨ 139 < c ∧ c ≠ 153 → m2.1 c = m.1 c) (e2 : ∀ i, i ≠ 2 → i ≠ 55 → i ≠ 85 → m2.1 107 i = m.1 107 i) (e3 : m2.2 = m.2)
    (sc : sn 71 T q'.1 q'.2.1 q'.2.2.1 q'.2.2.2 w day m2) (nc : m2.1 71 11 = m.1 71 11) (nr : nR T q'.1 q'.2.1 q'.2.2.1 q'.2.2.2 w day num m2)
    (cn : m2.1 102 4 = zn (min n 19 + 1)) (cj : ∀ j, j < min n 19 → m2.1 103 j = m.1 103 (j + (n - 19)) ∧ m2.1 104 j = m.1 104 (j + (n - 19)) ∧ m2.1 105 j = m.1 105 (j + (n - 19)) ∧ m2.1 106 j = m.1 106 (j + (n - 19)))
    (ck : m2.1 103 (min n 19) = zn k ∧ m2.1 104 (min n 19) = zn a ∧ m2.1 105 (min n 19) = zn b ∧ m2.1 106 (min n 19) = zn p)
    (rn : m2.1 107 85 = zn (min n 19 + 1)) (rk : snp T 153 (36 * min n 19) q m2) (rj : ∀ j, j < 36 * min n 19 → m2.1 153 j = m.1 153 (j + 36 * (n - 19))) : Inv m2 := by
  have hn := h.n
  refine ⟨T, G, F, q', w, day, num, ⟨c.tc.mono (fun p _ _ => e1 p (by omega)), c.tr.mono (fun p _ _ => e1 p (by omega)) (fun i _ _ => e2 i (by omega) (by omega) (by omega)), c.tw, c.gw, c.gf, sc, nc.trans c.nc, nr, qw, c.nb, c.db⟩, r.new (fun p _ => e1 p (by omega)) (fun i _ => e2 i (by omega) (by omega) (by omega)) (by rw [e3]) ?_⟩
  have top : H (min n 19 + (n - 19)) = q := by rw [show min n 19 + (n - 19) = n by omega]; exact h.hn
  refine ⟨min n 19 + 1, fun i j => if j = min n 19 then (if i = 0 then k else if i = 1 then a else if i = 2 then b else p) else D i (j + (n - 19)), fun j => if j ≤ min n 19 then H (j + (n - 19)) else q', by omega, ?_, ?_, ?_, ?_, cn, ?_, rn, ?_⟩
  · exact if_neg (by omega)
  · intro j hj
    show qW T w (if j ≤ min n 19 then H (j + (n - 19)) else q')
    by_cases e : j ≤ min n 19
    · rw [if_pos e]; exact h.hw _ (by omega)
    · rw [if_neg e]; exact qw
  · intro j hj
    by_cases e : j = min n 19
    · subst e
      simp only [if_true, if_neg (show ¬ min n 19 + 1 ≤ min n 19 by omega), Nat.le_refl, if_false]
      rw [top]; exact hu
    · simp only [if_neg e, if_pos (show j + 1 ≤ min n 19 by omega), if_pos (show j ≤ min n 19 by omega)]
      have := h.un (j + (n - 19)) (by omega)
      rw [show j + 1 + (n - 19) = j + (n - 19) + 1 by omega]; exact this
  · intro j hj
    by_cases e : j = min n 19
    · subst e
      simp only [if_true, if_neg (show ¬ min n 19 + 1 ≤ min n 19 by omega), Nat.le_refl, if_false]
      exact hf
    · simp only [if_neg e, if_pos (show j + 1 ≤ min n 19 by omega)]
      have := h.wf (j + (n - 19)) (by omega)
      rw [show j + 1 + (n - 19) = j + (n - 19) + 1 by omega]; exact this
  · intro j hj
    by_cases e : j = min n 19
    · subst e
      simp only [if_true]
      exact ck
    · simp only [if_neg e]
      rw [(cj j (by omega)).1, (cj j (by omega)).2.1, (cj j (by omega)).2.2.1, (cj j (by omega)).2.2.2]
      exact h.ck _ (by omega)
  · intro j hj
    show snp T 153 (36 * j) (if j ≤ min n 19 then H (j + (n - 19)) else q') m2
    rw [if_pos (by omega)]
    by_cases e : j = min n 19
    · subst e; rw [top]; exact rk
    · exact snp.shift c.tw (h.hw _ (by omega)).ml (h.rk (j + (n - 19)) (by omega)) (by omega : j < min n 19) rj
