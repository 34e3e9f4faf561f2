/-! trials: the reference's side 1, the class's copies -/
theorem lp_layT {T G F : Td} (W : tW T) {ord : List Nat} {d : Nat} (r : Nat) : ∀ (i f : Nat) (m : am_M), i + r = 5 → r < f → tR T G F m → (∀ i, i < T 0 1 → m.1 137 i = zn (ord.getD i 0)) →
    ∃ m', r_M_layTried_2 (d + 1) f (zn i) m = some (none, m') ∧ m'.2 = m.2 ∧ (∀ c, c ≠ 107 → c ≠ 132 → c ≠ 133 → c ≠ 134 → c ≠ 135 → c ≠ 137 → c ≠ 140 → m'.1 c = m.1 c) ∧ (∀ q, q < 5 → m'.1 132 q = m.1 132 q ∧ m'.1 133 q = m.1 133 q ∧ m'.1 137 q = m.1 137 q) ∧ (∀ q, i ≤ q → q < 5 → m'.1 132 (5 + q) = m.1 132 q ∧ m'.1 133 (5 + q) = m.1 133 q) ∧ (∀ q, q < i → m'.1 132 (5 + q) = m.1 132 (5 + q) ∧ m'.1 133 (5 + q) = m.1 133 (5 + q)) ∧ m'.1 134 0 = m.1 134 0 ∧ m'.1 134 1 = m.1 134 0 ∧ m'.1 135 0 = m.1 135 0 ∧ m'.1 135 1 = m.1 135 0 ∧ fl T ord m' ∧ ∀ i, i < 59 ∨ 66 < i → m'.1 107 i = m.1 107 i := by
  induction r with
  | zero =>
    intro i f m h1 h2 c ho
    obtain ⟨f, rfl⟩ : ∃ g, f = g + 1 := ⟨f - 1, by omega⟩
    obtain ⟨m', b1, b2, b3⟩ := s_plainT (d := d) (m := (am_w (am_w m.1 134 1 (m.1 134 0)) 135 1 (m.1 135 0), m.2)) (ord := ord) (c.mono (fun q q1 q2 => by simp (disch := omega) only [w_ne, w_at, wl_ne, wl_at, wc_ne, wc_at, upd_at, upd_ne, upl_at, upl_ne, cpy_in0, zn_cl, zn_add, zn_mul, zn_sub, zn_pm, br_tt, br_ff, br_ltT, br_ltF, br_leT, br_leF, br_eqT, br_eqF, br_eqs, br_eqm, br_eqm', br_ltm, br_mlt, br_lem, br_mle, br_oiF, br_lgge, br_lgle, br_lggt, br_lglt, br_lgeq, br_zb, br_zb1, bV_s, bI_s, bL_s, zo_n, zo_s]) (fun i _ _ => by simp (disch := omega) only [w_ne, w_at, wl_ne, wl_at, wc_ne, wc_at, upd_at, upd_ne, upl_at, upl_ne, cpy_in0, zn_cl, zn_add, zn_mul, zn_sub, zn_pm, br_tt, br_ff, br_ltT, br_ltF, br_leT, br_leF, br_eqT, br_eqF, br_eqs, br_eqm, br_eqm', br_ltm, br_mlt, br_lem, br_mle, br_oiF, br_lgge, br_lgle, br_lggt, br_lglt, br_lgeq, br_zb, br_zb1, bV_s, bI_s, bL_s, zo_n, zo_s])) W (by simp (disch := omega) only [w_ne, w_at, wl_ne, wl_at, wc_ne, wc_at, upd_at, upd_ne, upl_at, upl_ne, cpy_in0, zn_cl, zn_add, zn_mul, zn_sub, zn_pm, br_tt, br_ff, br_ltT, br_ltF, br_leT, br_leF, br_eqT, br_eqF, br_eqs, br_eqm, br_eqm', br_ltm, br_mlt, br_lem, br_mle, br_oiF, br_lgge, br_lgle, br_lggt, br_lglt, br_lgeq, br_zb, br_zb1, bV_s, bI_s, bL_s, zo_n, zo_s]; exact ho)
    refine ⟨m', ?_, b3.1, ?_, ?_, fun q _ _ => by omega, ?_, ?_, ?_, ?_, ?_, b2, ?_⟩
    · rw [e_M_layTried_2]
      simp (disch := omega) only [w_ne, w_at, wl_ne, wl_at, wc_ne, wc_at, upd_at, upd_ne, upl_at, upl_ne, cpy_in0, zn_cl, zn_add, zn_mul, zn_sub, zn_pm, br_tt, br_ff, br_ltT, br_ltF, br_leT, br_leF, br_eqT, br_eqF, br_eqs, br_eqm, br_eqm', br_ltm, br_mlt, br_lem, br_mle, br_oiF, br_lgge, br_lgle, br_lggt, br_lglt, br_lgeq, br_zb, br_zb1, bV_s, bI_s, bL_s, zo_n, zo_s, b1]
    · intro c c1 c2 c3 c4 c5 c6 c7; rw [b3.2.1 c c1 c6 c7]; simp (disch := omega) only [w_ne, w_at, wl_ne, wl_at, wc_ne, wc_at, upd_at, upd_ne, upl_at, upl_ne, cpy_in0, zn_cl, zn_add, zn_mul, zn_sub, zn_pm, br_tt, br_ff, br_ltT, br_ltF, br_leT, br_leF, br_eqT, br_eqF, br_eqs, br_eqm, br_eqm', br_ltm, br_mlt, br_lem, br_mle, br_oiF, br_lgge, br_lgle, br_lggt, br_lglt, br_lgeq, br_zb, br_zb1, bV_s, bI_s, bL_s, zo_n, zo_s]
    · intro q hq; rw [b3.2.1 132 (by omega) (by omega) (by omega), b3.2.1 133 (by omega) (by omega) (by omega), b3.2.2.2 q hq]; simp (disch := omega) only [w_ne, w_at, wl_ne, wl_at, wc_ne, wc_at, upd_at, upd_ne, upl_at, upl_ne, cpy_in0, zn_cl, zn_add, zn_mul, zn_sub, zn_pm, br_tt, br_ff, br_ltT, br_ltF, br_leT, br_leF, br_eqT, br_eqF, br_eqs, br_eqm, br_eqm', br_ltm, br_mlt, br_lem, br_mle, br_oiF, br_lgge, br_lgle, br_lggt, br_lglt, br_lgeq, br_zb, br_zb1, bV_s, bI_s, bL_s, zo_n, zo_s, and_self]
    · intro q hq; rw [b3.2.1 132 (by omega) (by omega) (by omega), b3.2.1 133 (by omega) (by omega) (by omega)]; simp (disch := omega) only [w_ne, w_at, wl_ne, wl_at, wc_ne, wc_at, upd_at, upd_ne, upl_at, upl_ne, cpy_in0, zn_cl, zn_add, zn_mul, zn_sub, zn_pm, br_tt, br_ff, br_ltT, br_ltF, br_leT, br_leF, br_eqT, br_eqF, br_eqs, br_eqm, br_eqm', br_ltm, br_mlt, br_lem, br_mle, br_oiF, br_lgge, br_lgle, br_lggt, br_lglt, br_lgeq, br_zb, br_zb1, bV_s, bI_s, bL_s, zo_n, zo_s, and_self]
    · rw [b3.2.1 134 (by omega) (by omega) (by omega)]; simp (disch := omega) only [w_ne, w_at, wl_ne, wl_at, wc_ne, wc_at, upd_at, upd_ne, upl_at, upl_ne, cpy_in0, zn_cl, zn_add, zn_mul, zn_sub, zn_pm, br_tt, br_ff, br_ltT, br_ltF, br_leT, br_leF, br_eqT, br_eqF, br_eqs, br_eqm, br_eqm', br_ltm, br_mlt, br_lem, br_mle, br_oiF, br_lgge, br_lgle, br_lggt, br_lglt, br_lgeq, br_zb, br_zb1, bV_s, bI_s, bL_s, zo_n, zo_s]
    · rw [b3.2.1 134 (by omega) (by omega) (by omega)]; simp (disch := omega) only [w_ne, w_at, wl_ne, wl_at, wc_ne, wc_at, upd_at, upd_ne, upl_at, upl_ne, cpy_in0, zn_cl, zn_add, zn_mul, zn_sub, zn_pm, br_tt, br_ff, br_ltT, br_ltF, br_leT, br_leF, br_eqT, br_eqF, br_eqs, br_eqm, br_eqm', br_ltm, br_mlt, br_lem, br_mle, br_oiF, br_lgge, br_lgle, br_lggt, br_lglt, br_lgeq, br_zb, br_zb1, bV_s, bI_s, bL_s, zo_n, zo_s]
    · rw [b3.2.1 135 (by omega) (by omega) (by omega)]; simp (disch := omega) only [w_ne, w_at, wl_ne, wl_at, wc_ne, wc_at, upd_at, upd_ne, upl_at, upl_ne, cpy_in0, zn_cl, zn_add, zn_mul, zn_sub, zn_pm, br_tt, br_ff, br_ltT, br_ltF, br_leT, br_leF, br_eqT, br_eqF, br_eqs, br_eqm, br_eqm', br_ltm, br_mlt, br_lem, br_mle, br_oiF, br_lgge, br_lgle, br_lggt, br_lglt, br_lgeq, br_zb, br_zb1, bV_s, bI_s, bL_s, zo_n, zo_s]
    · rw [b3.2.1 135 (by omega) (by omega) (by omega)]; simp (disch := omega) only [w_ne, w_at, wl_ne, wl_at, wc_ne, wc_at, upd_at, upd_ne, upl_at, upl_ne, cpy_in0, zn_cl, zn_add, zn_mul, zn_sub, zn_pm, br_tt, br_ff, br_ltT, br_ltF, br_leT, br_leF, br_eqT, br_eqF, br_eqs, br_eqm, br_eqm', br_ltm, br_mlt, br_lem, br_mle, br_oiF, br_lgge, br_lgle, br_lggt, br_lglt, br_lgeq, br_zb, br_zb1, bV_s, bI_s, bL_s, zo_n, zo_s]
    · intro i hi; rw [b3.2.2.1 i hi]; simp (disch := omega) only [w_ne, w_at, wl_ne, wl_at, wc_ne, wc_at, upd_at, upd_ne, upl_at, upl_ne, cpy_in0, zn_cl, zn_add, zn_mul, zn_sub, zn_pm, br_tt, br_ff, br_ltT, br_ltF, br_leT, br_leF, br_eqT, br_eqF, br_eqs, br_eqm, br_eqm', br_ltm, br_mlt, br_lem, br_mle, br_oiF, br_lgge, br_lgle, br_lggt, br_lglt, br_lgeq, br_zb, br_zb1, bV_s, bI_s, bL_s, zo_n, zo_s]
  | succ r ih =>
    intro i f m h1 h2 c ho
    obtain ⟨f, rfl⟩ : ∃ g, f = g + 1 := ⟨f - 1, by omega⟩
    obtain ⟨m', b1, b2, b3, b4, b5, b6, b7, b8, b9, b10, b11, b12⟩ := ih (i + 1) f (am_w (am_w m.1 132 (5 + i) (m.1 132 i)) 133 (5 + i) (m.1 133 i), m.2) (by omega) (by omega) (c.mono (fun q q1 q2 => by simp (disch := omega) only [w_ne, w_at, wl_ne, wl_at, wc_ne, wc_at, upd_at, upd_ne, upl_at, upl_ne, cpy_in0, zn_cl, zn_add, zn_mul, zn_sub, zn_pm, br_tt, br_ff, br_ltT, br_ltF, br_leT, br_leF, br_eqT, br_eqF, br_eqs, br_eqm, br_eqm', br_ltm, br_mlt, br_lem, br_mle, br_oiF, br_lgge, br_lgle, br_lggt, br_lglt, br_lgeq, br_zb, br_zb1, bV_s, bI_s, bL_s, zo_n, zo_s]) (fun i _ _ => by simp (disch := omega) only [w_ne, w_at, wl_ne, wl_at, wc_ne, wc_at, upd_at, upd_ne, upl_at, upl_ne, cpy_in0, zn_cl, zn_add, zn_mul, zn_sub, zn_pm, br_tt, br_ff, br_ltT, br_ltF, br_leT, br_leF, br_eqT, br_eqF, br_eqs, br_eqm, br_eqm', br_ltm, br_mlt, br_lem, br_mle, br_oiF, br_lgge, br_lgle, br_lggt, br_lglt, br_lgeq, br_zb, br_zb1, bV_s, bI_s, bL_s, zo_n, zo_s])) (by simp (disch := omega) only [w_ne, w_at, wl_ne, wl_at, wc_ne, wc_at, upd_at, upd_ne, upl_at, upl_ne, cpy_in0, zn_cl, zn_add, zn_mul, zn_sub, zn_pm, br_tt, br_ff, br_ltT, br_ltF, br_leT, br_leF, br_eqT, br_eqF, br_eqs, br_eqm, br_eqm', br_ltm, br_mlt, br_lem, br_mle, br_oiF, br_lgge, br_lgle, br_lggt, br_lglt, br_lgeq, br_zb, br_zb1, bV_s, bI_s, bL_s, zo_n, zo_s]; exact ho)
    refine ⟨m', ?_, b2, ?_, ?_, ?_, ?_, ?_, ?_, ?_, ?_, b11, ?_⟩
    · rw [e_M_layTried_2]
      simp (disch := omega) only [w_ne, w_at, wl_ne, wl_at, wc_ne, wc_at, upd_at, upd_ne, upl_at, upl_ne, cpy_in0, zn_cl, zn_add, zn_mul, zn_sub, zn_pm, br_tt, br_ff, br_ltT, br_ltF, br_leT, br_leF, br_eqT, br_eqF, br_eqs, br_eqm, br_eqm', br_ltm, br_mlt, br_lem, br_mle, br_oiF, br_lgge, br_lgle, br_lggt, br_lglt, br_lgeq, br_zb, br_zb1, bV_s, bI_s, bL_s, zo_n, zo_s]
      exact b1
    · intro c c1 c2 c3 c4 c5 c6 c7; rw [b3 c c1 c2 c3 c4 c5 c6 c7]; simp (disch := omega) only [w_ne, w_at, wl_ne, wl_at, wc_ne, wc_at, upd_at, upd_ne, upl_at, upl_ne, cpy_in0, zn_cl, zn_add, zn_mul, zn_sub, zn_pm, br_tt, br_ff, br_ltT, br_ltF, br_leT, br_leF, br_eqT, br_eqF, br_eqs, br_eqm, br_eqm', br_ltm, br_mlt, br_lem, br_mle, br_oiF, br_lgge, br_lgle, br_lggt, br_lglt, br_lgeq, br_zb, br_zb1, bV_s, bI_s, bL_s, zo_n, zo_s]
    · intro q hq; rw [(b4 q hq).1, (b4 q hq).2.1, (b4 q hq).2.2]; simp (disch := omega) only [w_ne, w_at, wl_ne, wl_at, wc_ne, wc_at, upd_at, upd_ne, upl_at, upl_ne, cpy_in0, zn_cl, zn_add, zn_mul, zn_sub, zn_pm, br_tt, br_ff, br_ltT, br_ltF, br_leT, br_leF, br_eqT, br_eqF, br_eqs, br_eqm, br_eqm', br_ltm, br_mlt, br_lem, br_mle, br_oiF, br_lgge, br_lgle, br_lggt, br_lglt, br_lgeq, br_zb, br_zb1, bV_s, bI_s, bL_s, zo_n, zo_s, and_self]
    · intro q h3 h4
      by_cases e : q = i
      · subst e; rw [(b6 q (by omega)).1, (b6 q (by omega)).2]; simp (disch := omega) only [w_ne, w_at, wl_ne, wl_at, wc_ne, wc_at, upd_at, upd_ne, upl_at, upl_ne, cpy_in0, zn_cl, zn_add, zn_mul, zn_sub, zn_pm, br_tt, br_ff, br_ltT, br_ltF, br_leT, br_leF, br_eqT, br_eqF, br_eqs, br_eqm, br_eqm', br_ltm, br_mlt, br_lem, br_mle, br_oiF, br_lgge, br_lgle, br_lggt, br_lglt, br_lgeq, br_zb, br_zb1, bV_s, bI_s, bL_s, zo_n, zo_s, and_self]
      · rw [(b5 q (by omega) h4).1, (b5 q (by omega) h4).2]; simp (disch := omega) only [w_ne, w_at, wl_ne, wl_at, wc_ne, wc_at, upd_at, upd_ne, upl_at, upl_ne, cpy_in0, zn_cl, zn_add, zn_mul, zn_sub, zn_pm, br_tt, br_ff, br_ltT, br_ltF, br_leT, br_leF, br_eqT, br_eqF, br_eqs, br_eqm, br_eqm', br_ltm, br_mlt, br_lem, br_mle, br_oiF, br_lgge, br_lgle, br_lggt, br_lglt, br_lgeq, br_zb, br_zb1, bV_s, bI_s, bL_s, zo_n, zo_s, and_self]
    · intro q hq; rw [(b6 q (by omega)).1, (b6 q (by omega)).2]; simp (disch := omega) only [w_ne, w_at, wl_ne, wl_at, wc_ne, wc_at, upd_at, upd_ne, upl_at, upl_ne, cpy_in0, zn_cl, zn_add, zn_mul, zn_sub, zn_pm, br_tt, br_ff, br_ltT, br_ltF, br_leT, br_leF, br_eqT, br_eqF, br_eqs, br_eqm, br_eqm', br_ltm, br_mlt, br_lem, br_mle, br_oiF, br_lgge, br_lgle, br_lggt, br_lglt, br_lgeq, br_zb, br_zb1, bV_s, bI_s, bL_s, zo_n, zo_s, and_self]
    · rw [b7]; simp (disch := omega) only [w_ne, w_at, wl_ne, wl_at, wc_ne, wc_at, upd_at, upd_ne, upl_at, upl_ne, cpy_in0, zn_cl, zn_add, zn_mul, zn_sub, zn_pm, br_tt, br_ff, br_ltT, br_ltF, br_leT, br_leF, br_eqT, br_eqF, br_eqs, br_eqm, br_eqm', br_ltm, br_mlt, br_lem, br_mle, br_oiF, br_lgge, br_lgle, br_lggt, br_lglt, br_lgeq, br_zb, br_zb1, bV_s, bI_s, bL_s, zo_n, zo_s]
    · rw [b8]; simp (disch := omega) only [w_ne, w_at, wl_ne, wl_at, wc_ne, wc_at, upd_at, upd_ne, upl_at, upl_ne, cpy_in0, zn_cl, zn_add, zn_mul, zn_sub, zn_pm, br_tt, br_ff, br_ltT, br_ltF, br_leT, br_leF, br_eqT, br_eqF, br_eqs, br_eqm, br_eqm', br_ltm, br_mlt, br_lem, br_mle, br_oiF, br_lgge, br_lgle, br_lggt, br_lglt, br_lgeq, br_zb, br_zb1, bV_s, bI_s, bL_s, zo_n, zo_s]
    · rw [b9]; simp (disch := omega) only [w_ne, w_at, wl_ne, wl_at, wc_ne, wc_at, upd_at, upd_ne, upl_at, upl_ne, cpy_in0, zn_cl, zn_add, zn_mul, zn_sub, zn_pm, br_tt, br_ff, br_ltT, br_ltF, br_leT, br_leF, br_eqT, br_eqF, br_eqs, br_eqm, br_eqm', br_ltm, br_mlt, br_lem, br_mle, br_oiF, br_lgge, br_lgle, br_lggt, br_lglt, br_lgeq, br_zb, br_zb1, bV_s, bI_s, bL_s, zo_n, zo_s]
    · rw [b10]; simp (disch := omega) only [w_ne, w_at, wl_ne, wl_at, wc_ne, wc_at, upd_at, upd_ne, upl_at, upl_ne, cpy_in0, zn_cl, zn_add, zn_mul, zn_sub, zn_pm, br_tt, br_ff, br_ltT, br_ltF, br_leT, br_leF, br_eqT, br_eqF, br_eqs, br_eqm, br_eqm', br_ltm, br_mlt, br_lem, br_mle, br_oiF, br_lgge, br_lgle, br_lggt, br_lglt, br_lgeq, br_zb, br_zb1, bV_s, bI_s, bL_s, zo_n, zo_s]
    · intro i hi; rw [b12 i hi]; simp (disch := omega) only [w_ne, w_at, wl_ne, wl_at, wc_ne, wc_at, upd_at, upd_ne, upl_at, upl_ne, cpy_in0, zn_cl, zn_add, zn_mul, zn_sub, zn_pm, br_tt, br_ff, br_ltT, br_ltF, br_leT, br_leF, br_eqT, br_eqF, br_eqs, br_eqm, br_eqm', br_ltm, br_mlt, br_lem, br_mle, br_oiF, br_lgge, br_lgle, br_lggt, br_lglt, br_lgeq, br_zb, br_zb1, bV_s, bI_s, bL_s, zo_n, zo_s]
/-- at most what the reference's questions change -/
def fqR (m : am_M) (m' : am_M) : Prop :=
  (∀ c, c ≤ 106 ∨ 108 ≤ c ∧ c ≤ 129 ∨ c = 136 ∨ c = 138 ∨ c = 139 ∨ c = 148 ∨ 153 ≤ c → m'.1 c = m.1 c)
  ∧ (∀ i, i < 5 → m'.1 132 i = m.1 132 i ∧ m'.1 133 i = m.1 133 i ∧ m'.1 137 i = m.1 137 i)
  ∧ (m'.1 134 0 = m.1 134 0)
  ∧ (m'.1 135 0 = m.1 135 0)
  ∧ (∀ i, i = 1 ∨ i = 4 ∨ i = 5 ∨ 12 ≤ i ∧ i ≤ 15 ∨ i = 55 ∨ i = 78 ∨ i = 79 ∨ i = 85 ∨ i = 87 ∨ i = 90 ∨ i = 91 → m'.1 107 i = m.1 107 i)
  ∧ (∀ c, c ≤ 106 → m'.2 c = m.2 c)
  ∧ (m'.2 107 58 = m.2 107 58 ∧ m'.2 107 92 = m.2 107 92)
theorem fqR.c {m : am_M} {m' : am_M} (hZ : fqR m m') : ∀ c, c ≤ 106 ∨ 108 ≤ c ∧ c ≤ 129 ∨ c = 136 ∨ c = 138 ∨ c = 139 ∨ c = 148 ∨ 153 ≤ c → m'.1 c = m.1 c := hZ.1
theorem fqR.s {m : am_M} {m' : am_M} (hZ : fqR m m') : ∀ i, i < 5 → m'.1 132 i = m.1 132 i ∧ m'.1 133 i = m.1 133 i ∧ m'.1 137 i = m.1 137 i := hZ.2.1
theorem fqR.w {m : am_M} {m' : am_M} (hZ : fqR m m') : m'.1 134 0 = m.1 134 0 := hZ.2.2.1
theorem fqR.d {m : am_M} {m' : am_M} (hZ : fqR m m') : m'.1 135 0 = m.1 135 0 := hZ.2.2.2.1
theorem fqR.f {m : am_M} {m' : am_M} (hZ : fqR m m') : ∀ i, i = 1 ∨ i = 4 ∨ i = 5 ∨ 12 ≤ i ∧ i ≤ 15 ∨ i = 55 ∨ i = 78 ∨ i = 79 ∨ i = 85 ∨ i = 87 ∨ i = 90 ∨ i = 91 → m'.1 107 i = m.1 107 i := hZ.2.2.2.2.1
theorem fqR.l {m : am_M} {m' : am_M} (hZ : fqR m m') : ∀ c, c ≤ 106 → m'.2 c = m.2 c := hZ.2.2.2.2.2.1
theorem fqR.r {m : am_M} {m' : am_M} (hZ : fqR m m') : m'.2 107 58 = m.2 107 58 ∧ m'.2 107 92 = m.2 107 92 := hZ.2.2.2.2.2.2
theorem fqR_refl (m : am_M) : fqR m m := ⟨fun _ _ => rfl, fun _ _ => ⟨rfl, rfl, rfl⟩, rfl, rfl, fun _ _ => rfl, fun _ _ => rfl, rfl, rfl⟩
theorem fqR_tr {m m1 m2 : am_M} (h : fqR m m1) (g : fqR m1 m2) : fqR m m2 :=
  ⟨fun c e => (g.c c e).trans (h.c c e), fun i e => ⟨(g.s i e).1.trans (h.s i e).1, (g.s i e).2.1.trans (h.s i e).2.1, (g.s i e).2.2.trans (h.s i e).2.2⟩, g.w.trans h.w, g.d.trans h.d, fun i e => (g.f i e).trans (h.f i e), fun c e => (g.l c e).trans (h.l c e), g.r.1.trans h.r.1, g.r.2.trans h.r.2⟩
theorem fqR_th (m : am_M) (x : Int32) : fqR m (am_w m.1 107 2 x, m.2) := by
  refine ⟨fun c hc => ?_, fun i hi => ⟨?_, ?_, ?_⟩, ?_, ?_, fun i hi => ?_, fun _ _ => rfl, rfl, rfl⟩ <;> simp (disch := omega) only [w_ne, w_at, wl_ne, wl_at, wc_ne, wc_at, upd_at, upd_ne, upl_at, upl_ne, cpy_in0, zn_cl, zn_add, zn_mul, zn_sub, zn_pm, br_tt, br_ff, br_ltT, br_ltF, br_leT, br_leF, br_eqT, br_eqF, br_eqs, br_eqm, br_eqm', br_ltm, br_mlt, br_lem, br_mle, br_oiF, br_lgge, br_lgle, br_lggt, br_lglt, br_lgeq, br_zb, br_zb1, bV_s, bI_s, bL_s, zo_n, zo_s]
theorem fry.q {m m' : am_M} (f : fry 1 m m') : fqR m m' := by
  refine ⟨fun c hc => f.2.1 c (by omega) (by omega) (by omega) (by omega) (by omega), fun i hi => ⟨(f.2.2.2.1 i (by omega)).1, (f.2.2.2.1 i (by omega)).2, by rw [f.2.1 137 (by omega) (by omega) (by omega) (by omega) (by omega)]⟩, (f.2.2.2.2 0 (by omega)).1, (f.2.2.2.2 0 (by omega)).2, fun i hi => f.2.2.1 i (by omega), fun c hc => f.1 c (by omega) (by omega) (by omega), ?_, ?_⟩ <;> rw [f.1 107 (by omega) (by omega) (by omega)]
theorem ftr.q {m m' : am_M} (f : ftr m m') : fqR m m' := by
  refine ⟨fun c hc => f.2.1 c (by omega) (by omega) (by omega), fun i hi => ⟨by rw [f.2.1 132 (by omega) (by omega) (by omega)], by rw [f.2.1 133 (by omega) (by omega) (by omega)], f.2.2.2 i hi⟩, by rw [f.2.1 134 (by omega) (by omega) (by omega)], by rw [f.2.1 135 (by omega) (by omega) (by omega)], fun i hi => f.2.2.1 i (by omega), fun c hc => by rw [f.1], ?_, ?_⟩ <;> rw [f.1]
theorem frl.q {m m' : am_M} (f : frl m m') : fqR m m' := by
  refine ⟨fun c hc => f.1 c (by omega), fun i hi => ⟨by rw [f.1 132 (by omega)], by rw [f.1 133 (by omega)], by rw [f.1 137 (by omega)]⟩, by rw [f.1 134 (by omega)], by rw [f.1 135 (by omega)], fun i hi => f.2.1 i (by omega), fun c hc => f.2.2 c (by omega) (by omega), ?_, ?_⟩ <;> rw [f.2.2 107 (by omega) (by omega)]
theorem tR.q {T G F : Td} {m m' : am_M} (c : tR T G F m) (f : fqR m m') : tR T G F m' := c.mono (fun q _ _ => f.c q (by omega)) (fun i _ _ => f.f i (by omega))
theorem nR.q {T : Td} {ord : List Nat} {U : Nat → Nat} {mt : List (Nat × Nat)} {h : Hs} {w : List Nat} {day num : Nat} {m m' : am_M} (s : nR T ord U mt h w day num m) (hw : w.length ≤ 5) (W : tW T) (f : fqR m m') : nR T ord U mt h w day num m' :=
  s.mono hw W.L W.n f.s f.w f.d (f.c 136 (by omega)) (f.c 138 (by omega)) (f.c 139 (by omega)) (f.f 55 (by omega)) f.r.1
theorem s_layT {T G F : Td} (W : tW T) {ord : List Nat} {U : Nat → Nat} {mt : List (Nat × Nat)} {h : Hs} {w : List Nat} {day num d : Nat} {m : am_M} (c : tR T G F m) (s : nR T ord U mt h w day num m) (hw : w.length ≤ 5) (ho : ∀ l, l ∈ ord → l < 5) :
    ∃ m', am_c (d + 2) y_M_layTried [.ref 107] m = some (none, m') ∧ fl T ord m' ∧ rn 1 T ord U mt h w day m' ∧ fqR m m' := by
  have := W.n; have := W.L
  obtain ⟨m', b1, b2, b3, b4, b5, b6, b7, b8, b9, b10, b11, b12⟩ := lp_layT W (d := d) 5 0 29999 m (by omega) (by omega) c s.os
  refine ⟨m', by rw [n_M_layTried, b1], b11, ?_, ?_⟩
  · have e136 := b3 136 (by omega) (by omega) (by omega) (by omega) (by omega) (by omega) (by omega)
    have e138 := b3 138 (by omega) (by omega) (by omega) (by omega) (by omega) (by omega) (by omega)
    have e139 := b3 139 (by omega) (by omega) (by omega) (by omega) (by omega) (by omega) (by omega)
    refine ⟨?_, ?_, ?_, ?_, ⟨ord, none, s.ol, ?_, b11.lo, (by intro a h; cases h), ho, ?_⟩, ?_, Or.inl ⟨b11.nm, ?_, ?_⟩, ?_⟩
    · intro i hi; rw [Nat.mul_one, (b5 i (by omega) (by omega)).1]; exact s.hs i hi
    · rw [b8]; exact s.wl
    · intro i hi; rw [Nat.mul_one, (b5 i (by omega) (by omega)).2]; exact s.ws i hi
    · rw [b10]; exact s.dy
    · intro i hi; rw [Nat.mul_one]; exact b11.os i hi
    · rw [List.filter_eq_self.mpr]; intro a _; simp
    · intro l hl; exact Or.inr ⟨by rw [b11.lm]; exact zn_zm (by omega), by rw [e136]; exact s.hu l hl⟩
    · rw [b12 55 (by omega)]; exact s.ml
    · rw [e138, e139]; exact s.ms
    · intro i q1 q2; rw [Nat.mul_one, (b5 i (by omega) q2).1]; exact s.h5 i q1 q2
  · refine ⟨fun c hc => b3 c (by omega) (by omega) (by omega) (by omega) (by omega) (by omega) (by omega), b4, b7, b9, fun i hi => b12 i (by omega), fun c _ => by rw [b2], ?_, ?_⟩ <;> rw [b2]
theorem lp_ownR {b : Nat} (hb1 : b < 2) {T : Td} {d : Nat} {h : Hs} {m : am_M} (hn : T 0 0 ≤ 5) (h0 : m.1 107 12 = zn (T 0 0)) (h1 : ∀ i, i < T 0 0 → m.1 132 (5 * b + i) = zo (h i)) (hh : ∀ i a, i < T 0 0 → h i = some a → a < T 0 0) (r : Nat) :
    ∀ i f c, i + r = T 0 0 → r < f → r_M_ownIn_4 d f (zn b) (zn c) (zn i) m = some (some (.int (zn (c + sp_sum (fun i => if h i = some i then 1 else 0) r i))), m) := by
  induction r with
  | zero =>
    intro i f c h2 h3
    obtain ⟨f, rfl⟩ : ∃ g, f = g + 1 := ⟨f - 1, by omega⟩
    rw [e_M_ownIn_4]
    simp (disch := omega) only [w_ne, w_at, wl_ne, wl_at, wc_ne, wc_at, upd_at, upd_ne, upl_at, upl_ne, cpy_in0, zn_cl, zn_add, zn_mul, zn_sub, zn_pm, br_tt, br_ff, br_ltT, br_ltF, br_leT, br_leF, br_eqT, br_eqF, br_eqs, br_eqm, br_eqm', br_ltm, br_mlt, br_lem, br_mle, br_oiF, br_lgge, br_lgle, br_lggt, br_lglt, br_lgeq, br_zb, br_zb1, bV_s, bI_s, bL_s, zo_n, zo_s, h0]
    rfl
  | succ r ih =>
    intro i f c h2 h3
    obtain ⟨f, rfl⟩ : ∃ g, f = g + 1 := ⟨f - 1, by omega⟩
    rw [e_M_ownIn_4, sp_sum]
    rcases opt_c (h i) with hi | ⟨a, hi⟩
    · simp (disch := omega) only [w_ne, w_at, wl_ne, wl_at, wc_ne, wc_at, upd_at, upd_ne, upl_at, upl_ne, cpy_in0, zn_cl, zn_add, zn_mul, zn_sub, zn_pm, br_tt, br_ff, br_ltT, br_ltF, br_leT, br_leF, br_eqT, br_eqF, br_eqs, br_eqm, br_eqm', br_ltm, br_mlt, br_lem, br_mle, br_oiF, br_lgge, br_lgle, br_lggt, br_lglt, br_lgeq, br_zb, br_zb1, bV_s, bI_s, bL_s, zo_n, zo_s, h0, h1, hi]
      rw [ih (i + 1) f (c + 0) (by omega) (by omega)]
      simp
    · have ha := hh i a (by omega) hi
      by_cases e : a = i
      · simp (disch := omega) only [w_ne, w_at, wl_ne, wl_at, wc_ne, wc_at, upd_at, upd_ne, upl_at, upl_ne, cpy_in0, zn_cl, zn_add, zn_mul, zn_sub, zn_pm, br_tt, br_ff, br_ltT, br_ltF, br_leT, br_leF, br_eqT, br_eqF, br_eqs, br_eqm, br_eqm', br_ltm, br_mlt, br_lem, br_mle, br_oiF, br_lgge, br_lgle, br_lggt, br_lglt, br_lgeq, br_zb, br_zb1, bV_s, bI_s, bL_s, zo_n, zo_s, h0, h1, hi, e]
        rw [ih (i + 1) f (c + 1) (by omega) (by omega)]
        simp only [if_true, Nat.add_assoc]
      · simp (disch := omega) only [w_ne, w_at, wl_ne, wl_at, wc_ne, wc_at, upd_at, upd_ne, upl_at, upl_ne, cpy_in0, zn_cl, zn_add, zn_mul, zn_sub, zn_pm, br_tt, br_ff, br_ltT, br_ltF, br_leT, br_leF, br_eqT, br_eqF, br_eqs, br_eqm, br_eqm', br_ltm, br_mlt, br_lem, br_mle, br_oiF, br_lgge, br_lgle, br_lggt, br_lglt, br_lgeq, br_zb, br_zb1, bV_s, bI_s, bL_s, zo_n, zo_s, h0, h1, hi]
        rw [ih (i + 1) f (c + 0) (by omega) (by omega)]
        simp [e]
theorem s_ownIn {b : Nat} (hb1 : b < 2) {T : Td} {d : Nat} {h : Hs} {w : List Nat} {m : am_M} (hn : T 0 0 ≤ 5) (h0 : m.1 107 12 = zn (T 0 0)) (h1 : ∀ i, i < T 0 0 → m.1 132 (5 * b + i) = zo (h i)) (I : hwI (T 0 0) h w) : am_c (d + 1) y_M_ownIn [.ref 107, .int (zn b)] m = some (some (.int (zn (sp_own (T 0 0) h))), m) := by
  rw [n_M_ownIn, lp_ownR hb1 hn h0 h1 (fun i a => hw_h I) (T 0 0) 0 29999 0 (by omega) (by omega), Nat.zero_add]; rfl
/-! the class: a scene is copied -/
/-- at most one scene is changed -/
def fsc (k : Nat) (m m' : am_M) : Prop := m'.2 = m.2 ∧ ∀ c, c < k ∨ k + 6 < c → m'.1 c = m.1 c
theorem s_copy {k j : Nat} (hk : sc_k k) (hj : sc_k j) (hkj : k ≠ j) {T : Td} (W : tW T) {ord : List Nat} {U : Nat → Nat} {mt : List (Nat × Nat)} {h : Hs} {w : List Nat} {day d : Nat} {m : am_M} (s : sn j T ord U mt h w day m) (hw : w.length ≤ 5) (ho : ord.length ≤ 5) (hm : mt.length ≤ 10) :
    ∃ m', am_c (d + 1) y_Scene_copyFrom [.ref k, .ref j] m = some (none, m') ∧ sn k T ord U mt h w day m' ∧ m'.1 k 11 = m.1 j 11 ∧ fsc k m m' := by
  have := W.n; have := W.L; have hsp := sc_sp hk hj hkj
  refine ⟨_, n_Scene_copyFrom hk hj d m, ⟨?_, ?_, ?_, ?_, ?_, ?_, ?_, ?_, ?_, ?_⟩, ?_, rfl, ?_⟩
  · simp (disch := omega) only [w_ne, w_at, wl_ne, wl_at, wc_ne, wc_at, upd_at, upd_ne, upl_at, upl_ne, cpy_in0, zn_cl, zn_add, zn_mul, zn_sub, zn_pm, br_tt, br_ff, br_ltT, br_ltF, br_leT, br_leF, br_eqT, br_eqF, br_eqs, br_eqm, br_eqm', br_ltm, br_mlt, br_lem, br_mle, br_oiF, br_lgge, br_lgle, br_lggt, br_lglt, br_lgeq, br_zb, br_zb1, bV_s, bI_s, bL_s, zo_n, zo_s, s.n]
  · intro i hi; simp (disch := omega) only [w_ne, w_at, wl_ne, wl_at, wc_ne, wc_at, upd_at, upd_ne, upl_at, upl_ne, cpy_in0, zn_cl, zn_add, zn_mul, zn_sub, zn_pm, br_tt, br_ff, br_ltT, br_ltF, br_leT, br_leF, br_eqT, br_eqF, br_eqs, br_eqm, br_eqm', br_ltm, br_mlt, br_lem, br_mle, br_oiF, br_lgge, br_lgle, br_lggt, br_lglt, br_lgeq, br_zb, br_zb1, bV_s, bI_s, bL_s, zo_n, zo_s, s.hs]
  · simp (disch := omega) only [w_ne, w_at, wl_ne, wl_at, wc_ne, wc_at, upd_at, upd_ne, upl_at, upl_ne, cpy_in0, zn_cl, zn_add, zn_mul, zn_sub, zn_pm, br_tt, br_ff, br_ltT, br_ltF, br_leT, br_leF, br_eqT, br_eqF, br_eqs, br_eqm, br_eqm', br_ltm, br_mlt, br_lem, br_mle, br_oiF, br_lgge, br_lgle, br_lggt, br_lglt, br_lgeq, br_zb, br_zb1, bV_s, bI_s, bL_s, zo_n, zo_s, s.wl]
  · intro i hi; simp (disch := omega) only [w_ne, w_at, wl_ne, wl_at, wc_ne, wc_at, upd_at, upd_ne, upl_at, upl_ne, cpy_in0, zn_cl, zn_add, zn_mul, zn_sub, zn_pm, br_tt, br_ff, br_ltT, br_ltF, br_leT, br_leF, br_eqT, br_eqF, br_eqs, br_eqm, br_eqm', br_ltm, br_mlt, br_lem, br_mle, br_oiF, br_lgge, br_lgle, br_lggt, br_lglt, br_lgeq, br_zb, br_zb1, bV_s, bI_s, bL_s, zo_n, zo_s, s.ws]
  · simp (disch := omega) only [w_ne, w_at, wl_ne, wl_at, wc_ne, wc_at, upd_at, upd_ne, upl_at, upl_ne, cpy_in0, zn_cl, zn_add, zn_mul, zn_sub, zn_pm, br_tt, br_ff, br_ltT, br_ltF, br_leT, br_leF, br_eqT, br_eqF, br_eqs, br_eqm, br_eqm', br_ltm, br_mlt, br_lem, br_mle, br_oiF, br_lgge, br_lgle, br_lggt, br_lglt, br_lgeq, br_zb, br_zb1, bV_s, bI_s, bL_s, zo_n, zo_s, s.dy]
  · simp (disch := omega) only [w_ne, w_at, wl_ne, wl_at, wc_ne, wc_at, upd_at, upd_ne, upl_at, upl_ne, cpy_in0, zn_cl, zn_add, zn_mul, zn_sub, zn_pm, br_tt, br_ff, br_ltT, br_ltF, br_leT, br_leF, br_eqT, br_eqF, br_eqs, br_eqm, br_eqm', br_ltm, br_mlt, br_lem, br_mle, br_oiF, br_lgge, br_lgle, br_lggt, br_lglt, br_lgeq, br_zb, br_zb1, bV_s, bI_s, bL_s, zo_n, zo_s, s.ol]
  · intro i hi; simp (disch := omega) only [w_ne, w_at, wl_ne, wl_at, wc_ne, wc_at, upd_at, upd_ne, upl_at, upl_ne, cpy_in0, zn_cl, zn_add, zn_mul, zn_sub, zn_pm, br_tt, br_ff, br_ltT, br_ltF, br_leT, br_leF, br_eqT, br_eqF, br_eqs, br_eqm, br_eqm', br_ltm, br_mlt, br_lem, br_mle, br_oiF, br_lgge, br_lgle, br_lggt, br_lglt, br_lgeq, br_zb, br_zb1, bV_s, bI_s, bL_s, zo_n, zo_s, s.os]
  · intro i hi; simp (disch := omega) only [w_ne, w_at, wl_ne, wl_at, wc_ne, wc_at, upd_at, upd_ne, upl_at, upl_ne, cpy_in0, zn_cl, zn_add, zn_mul, zn_sub, zn_pm, br_tt, br_ff, br_ltT, br_ltF, br_leT, br_leF, br_eqT, br_eqF, br_eqs, br_eqm, br_eqm', br_ltm, br_mlt, br_lem, br_mle, br_oiF, br_lgge, br_lgle, br_lggt, br_lglt, br_lgeq, br_zb, br_zb1, bV_s, bI_s, bL_s, zo_n, zo_s, s.hu]
  · simp (disch := omega) only [w_ne, w_at, wl_ne, wl_at, wc_ne, wc_at, upd_at, upd_ne, upl_at, upl_ne, cpy_in0, zn_cl, zn_add, zn_mul, zn_sub, zn_pm, br_tt, br_ff, br_ltT, br_ltF, br_leT, br_leF, br_eqT, br_eqF, br_eqs, br_eqm, br_eqm', br_ltm, br_mlt, br_lem, br_mle, br_oiF, br_lgge, br_lgle, br_lggt, br_lglt, br_lgeq, br_zb, br_zb1, bV_s, bI_s, bL_s, zo_n, zo_s, s.ml]
  · intro i hi; simp (disch := omega) only [w_ne, w_at, wl_ne, wl_at, wc_ne, wc_at, upd_at, upd_ne, upl_at, upl_ne, cpy_in0, zn_cl, zn_add, zn_mul, zn_sub, zn_pm, br_tt, br_ff, br_ltT, br_ltF, br_leT, br_leF, br_eqT, br_eqF, br_eqs, br_eqm, br_eqm', br_ltm, br_mlt, br_lem, br_mle, br_oiF, br_lgge, br_lgle, br_lggt, br_lglt, br_lgeq, br_zb, br_zb1, bV_s, bI_s, bL_s, zo_n, zo_s]; exact s.ms i hi
  · simp (disch := omega) only [w_ne, w_at, wl_ne, wl_at, wc_ne, wc_at, upd_at, upd_ne, upl_at, upl_ne, cpy_in0, zn_cl, zn_add, zn_mul, zn_sub, zn_pm, br_tt, br_ff, br_ltT, br_ltF, br_leT, br_leF, br_eqT, br_eqF, br_eqs, br_eqm, br_eqm', br_ltm, br_mlt, br_lem, br_mle, br_oiF, br_lgge, br_lgle, br_lggt, br_lglt, br_lgeq, br_zb, br_zb1, bV_s, bI_s, bL_s, zo_n, zo_s]
  · intro c hc; simp (disch := omega) only [w_ne, w_at, wl_ne, wl_at, wc_ne, wc_at, upd_at, upd_ne, upl_at, upl_ne, cpy_in0, zn_cl, zn_add, zn_mul, zn_sub, zn_pm, br_tt, br_ff, br_ltT, br_ltF, br_leT, br_leF, br_eqT, br_eqF, br_eqs, br_eqm, br_eqm', br_ltm, br_mlt, br_lem, br_mle, br_oiF, br_lgge, br_lgle, br_lggt, br_lglt, br_lgeq, br_zb, br_zb1, bV_s, bI_s, bL_s, zo_n, zo_s]
/-- at most what the class's questions change -/
def fqC (m m' : am_M) : Prop := (∀ c, c ≤ 24 ∨ 27 ≤ c ∧ c ≤ 49 ∨ 71 ≤ c ∧ c ≤ 84 ∨ 97 ≤ c ∧ c ≤ 100 ∨ 102 ≤ c → m'.1 c = m.1 c) ∧ ∀ c, 107 ≤ c → m'.2 c = m.2 c
theorem fqC_refl (m : am_M) : fqC m m := ⟨fun _ _ => rfl, fun _ _ => rfl⟩
theorem fqC_tr {m m1 m2 : am_M} (h : fqC m m1) (g : fqC m1 m2) : fqC m m2 := ⟨fun c e => (g.1 c e).trans (h.1 c e), fun c e => (g.2 c e).trans (h.2 c e)⟩
theorem fsc.q {k : Nat} {m m' : am_M} (f : fsc k m m') (hk : k = 52 ∨ k = 59 ∨ k = 85) : fqC m m' := ⟨fun c hc => f.2 c (by omega), fun c _ => by rw [f.1]⟩
theorem fdy.q {k : Nat} {m m' : am_M} (f : fdy k m m') (hk : k = 52 ∨ k = 59 ∨ k = 85) : fqC m m' := ⟨fun c hc => f.2.1 c (by omega) (by omega) (by omega), fun c hc => f.1 c (by omega) (by omega) (by omega) (by omega)⟩
theorem fdl.q {m m' : am_M} (f : fdl m m') : fqC m m' := ⟨fun c hc => by rw [f.1], fun c hc => f.2 c (by omega) (by omega)⟩
theorem tC.q {T G F : Td} {m m' : am_M} (c : tC T G F m) (f : fqC m m') : tC T G F m' := c.mono (fun q _ _ => f.1 q (by omega))
