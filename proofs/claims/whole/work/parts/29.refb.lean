/-! the day of the reference: dusk, lamps, thieves, noon -/
theorem rd_set {b n t : Nat} {o : Option Nat} {h : Hs} {w : List Nat} {m : am_M} (hn : n ≤ 5) (s : rd b n h w m) (ht : t < n) : rd b n (sp_set h t o) w (am_w m.1 132 (5 * b + t) (zo o), m.2) ∧ frd b m (am_w m.1 132 (5 * b + t) (zo o), m.2) := by
  obtain ⟨h1, h2, h3, h4⟩ := s
  refine ⟨⟨?_, ?_, ?_, ?_⟩, rfl, ?_, ?_, ?_⟩
  · intro i hi
    by_cases e : i = t
    · subst e; simp (disch := omega) only [w_ne, w_at, wl_ne, wl_at, wc_ne, wc_at, upd_at, upd_ne, upl_at, upl_ne, cpy_in0, zn_cl, zn_add, zn_mul, zn_sub, zn_pm, br_tt, br_ff, br_ltT, br_ltF, br_leT, br_leF, br_eqT, br_eqF, br_eqs, br_eqm, br_eqm', br_ltm, br_mlt, br_lem, br_mle, br_oiF, br_lgge, br_lgle, br_lggt, br_lglt, br_lgeq, br_zb, br_zb1, bV_s, bI_s, bL_s, zo_n, zo_s, set_at]
    · simp (disch := omega) only [w_ne, w_at, wl_ne, wl_at, wc_ne, wc_at, upd_at, upd_ne, upl_at, upl_ne, cpy_in0, zn_cl, zn_add, zn_mul, zn_sub, zn_pm, br_tt, br_ff, br_ltT, br_ltF, br_leT, br_leF, br_eqT, br_eqF, br_eqs, br_eqm, br_eqm', br_ltm, br_mlt, br_lem, br_mle, br_oiF, br_lgge, br_lgle, br_lggt, br_lglt, br_lgeq, br_zb, br_zb1, bV_s, bI_s, bL_s, zo_n, zo_s, set_ne, h1]
  · simp (disch := omega) only [w_ne, w_at, wl_ne, wl_at, wc_ne, wc_at, upd_at, upd_ne, upl_at, upl_ne, cpy_in0, zn_cl, zn_add, zn_mul, zn_sub, zn_pm, br_tt, br_ff, br_ltT, br_ltF, br_leT, br_leF, br_eqT, br_eqF, br_eqs, br_eqm, br_eqm', br_ltm, br_mlt, br_lem, br_mle, br_oiF, br_lgge, br_lgle, br_lggt, br_lglt, br_lgeq, br_zb, br_zb1, bV_s, bI_s, bL_s, zo_n, zo_s, h2]
  · intro i hi; simp (disch := omega) only [w_ne, w_at, wl_ne, wl_at, wc_ne, wc_at, upd_at, upd_ne, upl_at, upl_ne, cpy_in0, zn_cl, zn_add, zn_mul, zn_sub, zn_pm, br_tt, br_ff, br_ltT, br_ltF, br_leT, br_leF, br_eqT, br_eqF, br_eqs, br_eqm, br_eqm', br_ltm, br_mlt, br_lem, br_mle, br_oiF, br_lgge, br_lgle, br_lggt, br_lglt, br_lgeq, br_zb, br_zb1, bV_s, bI_s, bL_s, zo_n, zo_s, h3]
  · intro i q1 q2; simp (disch := omega) only [w_ne, w_at, wl_ne, wl_at, wc_ne, wc_at, upd_at, upd_ne, upl_at, upl_ne, cpy_in0, zn_cl, zn_add, zn_mul, zn_sub, zn_pm, br_tt, br_ff, br_ltT, br_ltF, br_leT, br_leF, br_eqT, br_eqF, br_eqs, br_eqm, br_eqm', br_ltm, br_mlt, br_lem, br_mle, br_oiF, br_lgge, br_lgle, br_lggt, br_lglt, br_lgeq, br_zb, br_zb1, bV_s, bI_s, bL_s, zo_n, zo_s, h4]
  · intro c c1 c2 c3; simp (disch := omega) only [w_ne, w_at, wl_ne, wl_at, wc_ne, wc_at, upd_at, upd_ne, upl_at, upl_ne, cpy_in0, zn_cl, zn_add, zn_mul, zn_sub, zn_pm, br_tt, br_ff, br_ltT, br_ltF, br_leT, br_leF, br_eqT, br_eqF, br_eqs, br_eqm, br_eqm', br_ltm, br_mlt, br_lem, br_mle, br_oiF, br_lgge, br_lgle, br_lggt, br_lglt, br_lgeq, br_zb, br_zb1, bV_s, bI_s, bL_s, zo_n, zo_s]
  · intro i hi; constructor <;> simp (disch := omega) only [w_ne, w_at, wl_ne, wl_at, wc_ne, wc_at, upd_at, upd_ne, upl_at, upl_ne, cpy_in0, zn_cl, zn_add, zn_mul, zn_sub, zn_pm, br_tt, br_ff, br_ltT, br_ltF, br_leT, br_leF, br_eqT, br_eqF, br_eqs, br_eqm, br_eqm', br_ltm, br_mlt, br_lem, br_mle, br_oiF, br_lgge, br_lgle, br_lggt, br_lglt, br_lgeq, br_zb, br_zb1, bV_s, bI_s, bL_s, zo_n, zo_s]
  · intro i hi; simp (disch := omega) only [w_ne, w_at, wl_ne, wl_at, wc_ne, wc_at, upd_at, upd_ne, upl_at, upl_ne, cpy_in0, zn_cl, zn_add, zn_mul, zn_sub, zn_pm, br_tt, br_ff, br_ltT, br_ltF, br_leT, br_leF, br_eqT, br_eqF, br_eqs, br_eqm, br_eqm', br_ltm, br_mlt, br_lem, br_mle, br_oiF, br_lgge, br_lgle, br_lggt, br_lglt, br_lgeq, br_zb, br_zb1, bV_s, bI_s, bL_s, zo_n, zo_s]
theorem lp_taken {b : Nat} (hb : b < 2) {d : Nat} {x2 x3 : Int32} (r : Nat) : ∀ (i f : Nat) (m : am_M), m.1 134 b = zn (i + r) → i + r < 5 → r < f →
    ∃ m', r_M_taken_24 d f (zn b) x2 x3 (zn i) m = some (some (.int x3), m') ∧ m'.2 = m.2 ∧ (∀ c, c ≠ 133 → m'.1 c = m.1 c) ∧ (∀ q, q < 5 * b + i ∨ 5 * b + i + r ≤ q → m'.1 133 q = m.1 133 q) ∧ ∀ q, i ≤ q → q < i + r → m'.1 133 (5 * b + q) = m.1 133 (5 * b + q + 1) := by
  induction r with
  | zero =>
    intro i f m h1 h2 h3
    obtain ⟨f, rfl⟩ : ∃ g, f = g + 1 := ⟨f - 1, by omega⟩
    refine ⟨m, ?_, rfl, fun _ _ => rfl, fun _ _ => rfl, fun q _ _ => by omega⟩
    rw [e_M_taken_24]
    simp (disch := omega) only [w_ne, w_at, wl_ne, wl_at, wc_ne, wc_at, upd_at, upd_ne, upl_at, upl_ne, cpy_in0, zn_cl, zn_add, zn_mul, zn_sub, zn_pm, br_tt, br_ff, br_ltT, br_ltF, br_leT, br_leF, br_eqT, br_eqF, br_eqs, br_eqm, br_eqm', br_ltm, br_mlt, br_lem, br_mle, br_oiF, br_lgge, br_lgle, br_lggt, br_lglt, br_lgeq, br_zb, br_zb1, bV_s, bI_s, bL_s, zo_n, zo_s, h1]
  | succ r ih =>
    intro i f m h1 h2 h3
    obtain ⟨f, rfl⟩ : ∃ g, f = g + 1 := ⟨f - 1, by omega⟩
    obtain ⟨m', e1, e2, e3, e4, e5⟩ := ih (i + 1) f (am_w m.1 133 (5 * b + i) (m.1 133 (5 * b + i + 1)), m.2) (by simp (disch := omega) only [w_ne, w_at, wl_ne, wl_at, wc_ne, wc_at, upd_at, upd_ne, upl_at, upl_ne, cpy_in0, zn_cl, zn_add, zn_mul, zn_sub, zn_pm, br_tt, br_ff, br_ltT, br_ltF, br_leT, br_leF, br_eqT, br_eqF, br_eqs, br_eqm, br_eqm', br_ltm, br_mlt, br_lem, br_mle, br_oiF, br_lgge, br_lgle, br_lggt, br_lglt, br_lgeq, br_zb, br_zb1, bV_s, bI_s, bL_s, zo_n, zo_s, h1]; congr 1; omega) (by omega) (by omega)
    refine ⟨m', ?_, e2, ?_, ?_, ?_⟩
    · rw [e_M_taken_24]
      simp (disch := omega) only [w_ne, w_at, wl_ne, wl_at, wc_ne, wc_at, upd_at, upd_ne, upl_at, upl_ne, cpy_in0, zn_cl, zn_add, zn_mul, zn_sub, zn_pm, br_tt, br_ff, br_ltT, br_ltF, br_leT, br_leF, br_eqT, br_eqF, br_eqs, br_eqm, br_eqm', br_ltm, br_mlt, br_lem, br_mle, br_oiF, br_lgge, br_lgle, br_lggt, br_lglt, br_lgeq, br_zb, br_zb1, bV_s, bI_s, bL_s, zo_n, zo_s, h1, e1]
    · intro c hc; rw [e3 c hc]; simp (disch := omega) only [w_ne, w_at, wl_ne, wl_at, wc_ne, wc_at, upd_at, upd_ne, upl_at, upl_ne, cpy_in0, zn_cl, zn_add, zn_mul, zn_sub, zn_pm, br_tt, br_ff, br_ltT, br_ltF, br_leT, br_leF, br_eqT, br_eqF, br_eqs, br_eqm, br_eqm', br_ltm, br_mlt, br_lem, br_mle, br_oiF, br_lgge, br_lgle, br_lggt, br_lglt, br_lgeq, br_zb, br_zb1, bV_s, bI_s, bL_s, zo_n, zo_s]
    · intro q hq; rw [e4 q (by omega)]; simp (disch := omega) only [w_ne, w_at, wl_ne, wl_at, wc_ne, wc_at, upd_at, upd_ne, upl_at, upl_ne, cpy_in0, zn_cl, zn_add, zn_mul, zn_sub, zn_pm, br_tt, br_ff, br_ltT, br_ltF, br_leT, br_leF, br_eqT, br_eqF, br_eqs, br_eqm, br_eqm', br_ltm, br_mlt, br_lem, br_mle, br_oiF, br_lgge, br_lgle, br_lggt, br_lglt, br_lgeq, br_zb, br_zb1, bV_s, bI_s, bL_s, zo_n, zo_s]
    · intro q hq1 hq2
      rcases Nat.eq_or_lt_of_le hq1 with e | e
      · subst e; rw [e4 (5 * b + i) (by omega)]; simp (disch := omega) only [w_ne, w_at, wl_ne, wl_at, wc_ne, wc_at, upd_at, upd_ne, upl_at, upl_ne, cpy_in0, zn_cl, zn_add, zn_mul, zn_sub, zn_pm, br_tt, br_ff, br_ltT, br_ltF, br_leT, br_leF, br_eqT, br_eqF, br_eqs, br_eqm, br_eqm', br_ltm, br_mlt, br_lem, br_mle, br_oiF, br_lgge, br_lgle, br_lggt, br_lglt, br_lgeq, br_zb, br_zb1, bV_s, bI_s, bL_s, zo_n, zo_s]
      · rw [e5 q (by omega) (by omega)]; simp (disch := omega) only [w_ne, w_at, wl_ne, wl_at, wc_ne, wc_at, upd_at, upd_ne, upl_at, upl_ne, cpy_in0, zn_cl, zn_add, zn_mul, zn_sub, zn_pm, br_tt, br_ff, br_ltT, br_ltF, br_leT, br_leF, br_eqT, br_eqF, br_eqs, br_eqm, br_eqm', br_ltm, br_mlt, br_lem, br_mle, br_oiF, br_lgge, br_lgle, br_lggt, br_lglt, br_lgeq, br_zb, br_zb1, bV_s, bI_s, bL_s, zo_n, zo_s]
theorem s_taken {b : Nat} (hb : b < 2) {d n j : Nat} {h : Hs} {w : List Nat} {m : am_M} (hn : w.length ≤ 5) (hs : rd b n h w m) (hj : j < w.length) :
    ∃ m', am_c (d + 1) y_M_taken [.ref 107, .int (zn b), .int (zn j)] m = some (some (.int (zn (w.getD j 0))), m') ∧ rd b n h (w.eraseIdx j) m' ∧ frd b m m' := by
  obtain ⟨h1, h2, h3, h4⟩ := hs
  obtain ⟨r, hr⟩ : ∃ r, w.length = j + r + 1 := ⟨w.length - j - 1, by omega⟩
  obtain ⟨m', e1, e2, e3, e4, e5⟩ := lp_taken hb (d := d) (x2 := zn j) (x3 := zn (w.getD j 0)) r j 29999 (am_w m.1 134 b (zn (j + r)), m.2) (by simp (disch := omega) only [w_ne, w_at, wl_ne, wl_at, wc_ne, wc_at, upd_at, upd_ne, upl_at, upl_ne, cpy_in0, zn_cl, zn_add, zn_mul, zn_sub, zn_pm, br_tt, br_ff, br_ltT, br_ltF, br_leT, br_leF, br_eqT, br_eqF, br_eqs, br_eqm, br_eqm', br_ltm, br_mlt, br_lem, br_mle, br_oiF, br_lgge, br_lgle, br_lggt, br_lglt, br_lgeq, br_zb, br_zb1, bV_s, bI_s, bL_s, zo_n, zo_s]) (by omega) (by omega)
  refine ⟨m', ?_, ⟨?_, ?_, ?_, ?_⟩, e2, ?_, ?_, ?_⟩
  · rw [n_M_taken]
    simp (disch := omega) only [w_ne, w_at, wl_ne, wl_at, wc_ne, wc_at, upd_at, upd_ne, upl_at, upl_ne, cpy_in0, zn_cl, zn_add, zn_mul, zn_sub, zn_pm, br_tt, br_ff, br_ltT, br_ltF, br_leT, br_leF, br_eqT, br_eqF, br_eqs, br_eqm, br_eqm', br_ltm, br_mlt, br_lem, br_mle, br_oiF, br_lgge, br_lgle, br_lggt, br_lglt, br_lgeq, br_zb, br_zb1, bV_s, bI_s, bL_s, zo_n, zo_s, h2, h3]
    rw [hr, Nat.add_sub_cancel, e1]
  · intro i hi
    rw [e3 _ (by omega)]
    simp (disch := omega) only [w_ne, w_at, wl_ne, wl_at, wc_ne, wc_at, upd_at, upd_ne, upl_at, upl_ne, cpy_in0, zn_cl, zn_add, zn_mul, zn_sub, zn_pm, br_tt, br_ff, br_ltT, br_ltF, br_leT, br_leF, br_eqT, br_eqF, br_eqs, br_eqm, br_eqm', br_ltm, br_mlt, br_lem, br_mle, br_oiF, br_lgge, br_lgle, br_lggt, br_lglt, br_lgeq, br_zb, br_zb1, bV_s, bI_s, bL_s, zo_n, zo_s, h1]
  · rw [e3 _ (by omega), List.length_eraseIdx_of_lt hj]
    simp (disch := omega) only [w_ne, w_at, wl_ne, wl_at, wc_ne, wc_at, upd_at, upd_ne, upl_at, upl_ne, cpy_in0, zn_cl, zn_add, zn_mul, zn_sub, zn_pm, br_tt, br_ff, br_ltT, br_ltF, br_leT, br_leF, br_eqT, br_eqF, br_eqs, br_eqm, br_eqm', br_ltm, br_mlt, br_lem, br_mle, br_oiF, br_lgge, br_lgle, br_lggt, br_lglt, br_lgeq, br_zb, br_zb1, bV_s, bI_s, bL_s, zo_n, zo_s, hr, Nat.add_sub_cancel]
  · intro i hi
    rw [List.length_eraseIdx_of_lt hj] at hi
    rw [getD_erase]
    by_cases e : i < j
    · rw [e4 _ (by omega), if_pos e]; simp (disch := omega) only [w_ne, w_at, wl_ne, wl_at, wc_ne, wc_at, upd_at, upd_ne, upl_at, upl_ne, cpy_in0, zn_cl, zn_add, zn_mul, zn_sub, zn_pm, br_tt, br_ff, br_ltT, br_ltF, br_leT, br_leF, br_eqT, br_eqF, br_eqs, br_eqm, br_eqm', br_ltm, br_mlt, br_lem, br_mle, br_oiF, br_lgge, br_lgle, br_lggt, br_lglt, br_lgeq, br_zb, br_zb1, bV_s, bI_s, bL_s, zo_n, zo_s, h3]
    · rw [e5 i (by omega) (by omega), if_neg e]; simp (disch := omega) only [w_ne, w_at, wl_ne, wl_at, wc_ne, wc_at, upd_at, upd_ne, upl_at, upl_ne, cpy_in0, zn_cl, zn_add, zn_mul, zn_sub, zn_pm, br_tt, br_ff, br_ltT, br_ltF, br_leT, br_leF, br_eqT, br_eqF, br_eqs, br_eqm, br_eqm', br_ltm, br_mlt, br_lem, br_mle, br_oiF, br_lgge, br_lgle, br_lggt, br_lglt, br_lgeq, br_zb, br_zb1, bV_s, bI_s, bL_s, zo_n, zo_s, h3, Nat.add_assoc]
  · intro i q1 q2
    rw [e3 _ (by omega)]
    simp (disch := omega) only [w_ne, w_at, wl_ne, wl_at, wc_ne, wc_at, upd_at, upd_ne, upl_at, upl_ne, cpy_in0, zn_cl, zn_add, zn_mul, zn_sub, zn_pm, br_tt, br_ff, br_ltT, br_ltF, br_leT, br_leF, br_eqT, br_eqF, br_eqs, br_eqm, br_eqm', br_ltm, br_mlt, br_lem, br_mle, br_oiF, br_lgge, br_lgle, br_lggt, br_lglt, br_lgeq, br_zb, br_zb1, bV_s, bI_s, bL_s, zo_n, zo_s, h4]
  · intro c c1 c2 c3; rw [e3 c c2]; simp (disch := omega) only [w_ne, w_at, wl_ne, wl_at, wc_ne, wc_at, upd_at, upd_ne, upl_at, upl_ne, cpy_in0, zn_cl, zn_add, zn_mul, zn_sub, zn_pm, br_tt, br_ff, br_ltT, br_ltF, br_leT, br_leF, br_eqT, br_eqF, br_eqs, br_eqm, br_eqm', br_ltm, br_mlt, br_lem, br_mle, br_oiF, br_lgge, br_lgle, br_lggt, br_lglt, br_lgeq, br_zb, br_zb1, bV_s, bI_s, bL_s, zo_n, zo_s]
  · intro i hi
    constructor
    · rw [e3 132 (by omega)]; simp (disch := omega) only [w_ne, w_at, wl_ne, wl_at, wc_ne, wc_at, upd_at, upd_ne, upl_at, upl_ne, cpy_in0, zn_cl, zn_add, zn_mul, zn_sub, zn_pm, br_tt, br_ff, br_ltT, br_ltF, br_leT, br_leF, br_eqT, br_eqF, br_eqs, br_eqm, br_eqm', br_ltm, br_mlt, br_lem, br_mle, br_oiF, br_lgge, br_lgle, br_lggt, br_lglt, br_lgeq, br_zb, br_zb1, bV_s, bI_s, bL_s, zo_n, zo_s]
    · rw [e4 i (by omega)]; simp (disch := omega) only [w_ne, w_at, wl_ne, wl_at, wc_ne, wc_at, upd_at, upd_ne, upl_at, upl_ne, cpy_in0, zn_cl, zn_add, zn_mul, zn_sub, zn_pm, br_tt, br_ff, br_ltT, br_ltF, br_leT, br_leF, br_eqT, br_eqF, br_eqs, br_eqm, br_eqm', br_ltm, br_mlt, br_lem, br_mle, br_oiF, br_lgge, br_lgle, br_lggt, br_lglt, br_lgeq, br_zb, br_zb1, bV_s, bI_s, bL_s, zo_n, zo_s]
  · intro i hi; rw [e3 134 (by omega)]; simp (disch := omega) only [w_ne, w_at, wl_ne, wl_at, wc_ne, wc_at, upd_at, upd_ne, upl_at, upl_ne, cpy_in0, zn_cl, zn_add, zn_mul, zn_sub, zn_pm, br_tt, br_ff, br_ltT, br_ltF, br_leT, br_leF, br_eqT, br_eqF, br_eqs, br_eqm, br_eqm', br_ltm, br_mlt, br_lem, br_mle, br_oiF, br_lgge, br_lgle, br_lggt, br_lglt, br_lgeq, br_zb, br_zb1, bV_s, bI_s, bL_s, zo_n, zo_s]
/-- the day's own cells of one side -/
def fry (b : Nat) (m m' : am_M) : Prop := (∀ c, c ≠ 130 → c ≠ 131 → c ≠ 141 → m'.2 c = m.2 c) ∧ (∀ c, c ≠ 107 → c ≠ 132 → c ≠ 133 → c ≠ 134 → c ≠ 135 → m'.1 c = m.1 c) ∧ (∀ i, i ≠ 48 → m'.1 107 i = m.1 107 i) ∧ (∀ i, i < 5 * b ∨ 5 * b + 5 ≤ i → m'.1 132 i = m.1 132 i ∧ m'.1 133 i = m.1 133 i) ∧ ∀ i, i ≠ b → m'.1 134 i = m.1 134 i ∧ m'.1 135 i = m.1 135 i
theorem fry_tr {b : Nat} {m m1 m2 : am_M} (h : fry b m m1) (g : fry b m1 m2) : fry b m m2 :=
  ⟨fun c a e f => (g.1 c a e f).trans (h.1 c a e f), fun c a e f i j => (g.2.1 c a e f i j).trans (h.2.1 c a e f i j), fun i e => (g.2.2.1 i e).trans (h.2.2.1 i e),
   fun i e => ⟨(g.2.2.2.1 i e).1.trans (h.2.2.2.1 i e).1, (g.2.2.2.1 i e).2.trans (h.2.2.2.1 i e).2⟩, fun i e => ⟨(g.2.2.2.2 i e).1.trans (h.2.2.2.2 i e).1, (g.2.2.2.2 i e).2.trans (h.2.2.2.2 i e).2⟩⟩
theorem fry_refl (b : Nat) (m : am_M) : fry b m m := ⟨fun _ _ _ _ => rfl, fun _ _ _ _ _ _ => rfl, fun _ _ => rfl, fun _ _ => ⟨rfl, rfl⟩, fun _ _ => ⟨rfl, rfl⟩⟩
theorem frd.y {b : Nat} {m m' : am_M} (f : frd b m m') : fry b m m' := ⟨fun c _ _ _ => by rw [f.1], fun c _ c2 c3 c4 _ => f.2.1 c c2 c3 c4, fun i _ => by rw [f.2.1 107 (by omega) (by omega) (by omega)], f.2.2.1, fun i e => ⟨f.2.2.2 i e, by rw [f.2.1 135 (by omega) (by omega) (by omega)]⟩⟩
theorem frl.y {b : Nat} {m m' : am_M} (f : frl m m') : fry b m m' := ⟨fun c c1 c2 _ => f.2.2 c c1 c2, fun c c1 _ _ _ _ => f.1 c c1, f.2.1, fun i _ => ⟨by rw [f.1 132 (by omega)], by rw [f.1 133 (by omega)]⟩, fun i _ => ⟨by rw [f.1 134 (by omega)], by rw [f.1 135 (by omega)]⟩⟩
theorem rx.fy {b : Nat} {T V : Td} {E : Ev} {m m' : am_M} (h : rx T V E m) (f : fry b m m') : rx T V E m' := h.mono (fun c _ _ => f.2.1 c (by omega) (by omega) (by omega) (by omega) (by omega)) (f.2.1 140 (by omega) (by omega) (by omega) (by omega) (by omega)) f.2.2.1
theorem lq_late {b : Nat} (hb1 : b < 2) {T V : Td} {E : Ev} (W : tw T V) (hE : evW E) {ord : List Nat} {U : Nat → Nat} {mt : List (Nat × Nat)} {h : Hs} {w : List Nat} {day d : Nat} (hb : ∀ i s, i < T 0 0 → h i = some s → s < T 0 0) (r : Nat) :
    ∀ (i f : Nat) (m : am_M), i + r = T 0 0 → r < f → rx T V E m → rn b T ord U mt h w day m → (∀ q, q < i → m.2 141 q = sp_late T V E day h q) →
    ∃ f' m', r_M_dusk_2 (d + 4) f (zn b) (zn i) m = r_M_dusk_30 (d + 4) f' (zn b) (zn 1) none none m' ∧ f ≤ f' + r + 1 ∧ rx T V E m' ∧ rn b T ord U mt h w day m' ∧ fry b m m' ∧ ∀ q, q < T 0 0 → m'.2 141 q = sp_late T V E day h q := by
  induction r with
  | zero =>
    intro i f m h1 h2 c s hl
    have := W.n
    obtain ⟨f, rfl⟩ : ∃ g, f = g + 1 := ⟨f - 1, by omega⟩
    refine ⟨f, m, ?_, by omega, c, s, fry_refl b m, fun q hq => hl q (by omega)⟩
    rw [e_M_dusk_2]
    simp (disch := omega) only [w_ne, w_at, wl_ne, wl_at, wc_ne, wc_at, upd_at, upd_ne, upl_at, upl_ne, cpy_in0, zn_cl, zn_add, zn_mul, zn_sub, zn_pm, br_tt, br_ff, br_ltT, br_ltF, br_leT, br_leF, br_eqT, br_eqF, br_eqs, br_eqm, br_eqm', br_ltm, br_mlt, br_lem, br_mle, br_oiF, br_lgge, br_lgle, br_lggt, br_lglt, br_lgeq, br_zb, br_zb1, bV_s, bI_s, bL_s, zo_n, zo_s, c.n]
  | succ r ih =>
    intro i f m h1 h2 c s hl
    have := W.n
    obtain ⟨f, rfl⟩ : ∃ g, f = g + 1 := ⟨f - 1, by omega⟩
    obtain ⟨m1, a1, a2⟩ := s_lateOf W hE c hb1 s.hs hb s.dy (d := d) (t := i) (by omega)
    obtain ⟨f', m', b1, b2, b3, b4, b5, b6⟩ := ih (i + 1) f (m1.1, am_wl m1.2 141 i (sp_late T V E day h i)) (by omega) (by omega) ((c.fl a2).same rfl) ((s.fl a2).same rfl) (by
      intro q hq
      by_cases e : q = i
      · subst e; simp (disch := omega) only [w_ne, w_at, wl_ne, wl_at, wc_ne, wc_at, upd_at, upd_ne, upl_at, upl_ne, cpy_in0, zn_cl, zn_add, zn_mul, zn_sub, zn_pm, br_tt, br_ff, br_ltT, br_ltF, br_leT, br_leF, br_eqT, br_eqF, br_eqs, br_eqm, br_eqm', br_ltm, br_mlt, br_lem, br_mle, br_oiF, br_lgge, br_lgle, br_lggt, br_lglt, br_lgeq, br_zb, br_zb1, bV_s, bI_s, bL_s, zo_n, zo_s]
      · simp (disch := omega) only [w_ne, w_at, wl_ne, wl_at, wc_ne, wc_at, upd_at, upd_ne, upl_at, upl_ne, cpy_in0, zn_cl, zn_add, zn_mul, zn_sub, zn_pm, br_tt, br_ff, br_ltT, br_ltF, br_leT, br_leF, br_eqT, br_eqF, br_eqs, br_eqm, br_eqm', br_ltm, br_mlt, br_lem, br_mle, br_oiF, br_lgge, br_lgle, br_lggt, br_lglt, br_lgeq, br_zb, br_zb1, bV_s, bI_s, bL_s, zo_n, zo_s]
        rw [a2.2.2 141 (by omega) (by omega)]
        exact hl q (by omega))
    refine ⟨f', m', ?_, by omega, b3, b4, fry_tr (fry_tr a2.y ?_) b5, b6⟩
    · rw [← b1, e_M_dusk_2]
      simp (disch := omega) only [w_ne, w_at, wl_ne, wl_at, wc_ne, wc_at, upd_at, upd_ne, upl_at, upl_ne, cpy_in0, zn_cl, zn_add, zn_mul, zn_sub, zn_pm, br_tt, br_ff, br_ltT, br_ltF, br_leT, br_leF, br_eqT, br_eqF, br_eqs, br_eqm, br_eqm', br_ltm, br_mlt, br_lem, br_mle, br_oiF, br_lgge, br_lgle, br_lggt, br_lglt, br_lgeq, br_zb, br_zb1, bV_s, bI_s, bL_s, zo_n, zo_s, c.n, a1]
    · exact ⟨fun c _ _ c3 => by simp (disch := omega) only [w_ne, w_at, wl_ne, wl_at, wc_ne, wc_at, upd_at, upd_ne, upl_at, upl_ne, cpy_in0, zn_cl, zn_add, zn_mul, zn_sub, zn_pm, br_tt, br_ff, br_ltT, br_ltF, br_leT, br_leF, br_eqT, br_eqF, br_eqs, br_eqm, br_eqm', br_ltm, br_mlt, br_lem, br_mle, br_oiF, br_lgge, br_lgle, br_lggt, br_lglt, br_lgeq, br_zb, br_zb1, bV_s, bI_s, bL_s, zo_n, zo_s], fun _ _ _ _ _ _ => rfl, fun _ _ => rfl, fun _ _ => ⟨rfl, rfl⟩, fun _ _ => ⟨rfl, rfl⟩⟩
theorem lq_next {b : Nat} (hb1 : b < 2) {T V : Td} {E : Ev} (W : tw T V) {h : Hs} {g : Nat → Int64} {d : Nat} {x2 : Int32} {m : am_M} (c : rx T V E m) (hh : ∀ i, i < T 0 0 → m.1 132 (5 * b + i) = zo (h i)) (hb : ∀ i s, i < T 0 0 → h i = some s → s < T 0 0) (hg : ∀ q, q < T 0 0 → m.2 141 q = g q) (r : Nat) :
    ∀ (i f : Nat) (acc : Option Nat), i + r = T 0 0 → r < f → (∀ j, acc = some j → j < T 0 0) →
    ∃ f', r_M_dusk_39 d f (zn b) x2 (zo acc) (zn i) m = r_M_dusk_39 d (f' + 1) (zn b) x2 (zo (sp_min (fun t => (h t).isSome) g r i acc)) (zn (T 0 0)) m ∧ f ≤ f' + r + 1 := by
  induction r with
  | zero =>
    intro i f acc h1 h2 h3
    refine ⟨f - 1, ?_, by omega⟩
    rw [sp_min, Nat.sub_add_cancel (by omega)]
    have : i = T 0 0 := by omega
    rw [this]
  | succ r ih =>
    intro i f acc h1 h2 h3
    have := W.n
    obtain ⟨f, rfl⟩ : ∃ g, f = g + 1 := ⟨f - 1, by omega⟩
    rw [sp_min]
    have key : ∀ acc', (∀ j, acc' = some j → j < T 0 0) → acc' = (if (h i).isSome = true then sp_bt g i acc else acc) → r_M_dusk_39 d (f + 1) (zn b) x2 (zo acc) (zn i) m = r_M_dusk_39 d f (zn b) x2 (zo acc') (zn (i + 1)) m → ∃ f', r_M_dusk_39 d (f + 1) (zn b) x2 (zo acc) (zn i) m = r_M_dusk_39 d (f' + 1) (zn b) x2 (zo (sp_min (fun t => (h t).isSome) g r (i + 1) (if (h i).isSome = true then sp_bt g i acc else acc))) (zn (T 0 0)) m ∧ f + 1 ≤ f' + (r + 1) + 1 := by
      intro acc' q1 q2 q3
      obtain ⟨f', b1, b2⟩ := ih (i + 1) f acc' (by omega) (by omega) q1
      exact ⟨f', by rw [q3, b1, ← q2], by omega⟩
    rcases opt_c (h i) with e | ⟨s, e⟩
    · refine key acc h3 (by simp [e]) ?_
      rw [e_M_dusk_39]
      simp (disch := omega) only [w_ne, w_at, wl_ne, wl_at, wc_ne, wc_at, upd_at, upd_ne, upl_at, upl_ne, cpy_in0, zn_cl, zn_add, zn_mul, zn_sub, zn_pm, br_tt, br_ff, br_ltT, br_ltF, br_leT, br_leF, br_eqT, br_eqF, br_eqs, br_eqm, br_eqm', br_ltm, br_mlt, br_lem, br_mle, br_oiF, br_lgge, br_lgle, br_lggt, br_lglt, br_lgeq, br_zb, br_zb1, bV_s, bI_s, bL_s, zo_n, zo_s, c.n, hh, e]
    · have := hb i s (by omega) e
      rcases opt_c acc with ha | ⟨j, ha⟩
      · subst ha
        refine key (some i) (by intro j hj; cases hj; omega) (by simp [e, sp_bt]) ?_
        rw [e_M_dusk_39]
        simp (disch := omega) only [w_ne, w_at, wl_ne, wl_at, wc_ne, wc_at, upd_at, upd_ne, upl_at, upl_ne, cpy_in0, zn_cl, zn_add, zn_mul, zn_sub, zn_pm, br_tt, br_ff, br_ltT, br_ltF, br_leT, br_leF, br_eqT, br_eqF, br_eqs, br_eqm, br_eqm', br_ltm, br_mlt, br_lem, br_mle, br_oiF, br_lgge, br_lgle, br_lggt, br_lglt, br_lgeq, br_zb, br_zb1, bV_s, bI_s, bL_s, zo_n, zo_s, c.n, hh, e]
      · subst ha
        have := h3 j rfl
        by_cases hlt : g i < g j
        · refine key (some i) (by intro j hj; cases hj; omega) (by simp [e, sp_bt, hlt]) ?_
          rw [e_M_dusk_39]
          simp (disch := omega) only [w_ne, w_at, wl_ne, wl_at, wc_ne, wc_at, upd_at, upd_ne, upl_at, upl_ne, cpy_in0, zn_cl, zn_add, zn_mul, zn_sub, zn_pm, br_tt, br_ff, br_ltT, br_ltF, br_leT, br_leF, br_eqT, br_eqF, br_eqs, br_eqm, br_eqm', br_ltm, br_mlt, br_lem, br_mle, br_oiF, br_lgge, br_lgle, br_lggt, br_lglt, br_lgeq, br_zb, br_zb1, bV_s, bI_s, bL_s, zo_n, zo_s, c.n, hh, e, hg]
          rw [if_neg (Int64.not_le.mpr hlt)]
        · refine key (some j) h3 (by simp [e, sp_bt, hlt]) ?_
          rw [e_M_dusk_39]
          simp (disch := omega) only [w_ne, w_at, wl_ne, wl_at, wc_ne, wc_at, upd_at, upd_ne, upl_at, upl_ne, cpy_in0, zn_cl, zn_add, zn_mul, zn_sub, zn_pm, br_tt, br_ff, br_ltT, br_ltF, br_leT, br_leF, br_eqT, br_eqF, br_eqs, br_eqm, br_eqm', br_ltm, br_mlt, br_lem, br_mle, br_oiF, br_lgge, br_lgle, br_lggt, br_lglt, br_lgeq, br_zb, br_zb1, bV_s, bI_s, bL_s, zo_n, zo_s, c.n, hh, e, hg]
          rw [if_pos (Int64.not_lt.mp hlt)]
theorem rd_bring {b n t s : Nat} {h : Hs} {w : List Nat} {m : am_M} (hb : b < 2) (hn : n ≤ 5) (hw : w.length < 5) (hs : rd b n h w m) (ht : t < n) (e : h t = some s) :
    rd b n (sp_set h t none) (w ++ [s]) (am_w (am_w (am_w m.1 133 (5 * b + w.length) (zn s)) 134 b (zn (w.length + 1))) 132 (5 * b + t) zm, m.2) ∧ frd b m (am_w (am_w (am_w m.1 133 (5 * b + w.length) (zn s)) 134 b (zn (w.length + 1))) 132 (5 * b + t) zm, m.2) := by
  obtain ⟨h1, h2, h3, h4⟩ := hs
  refine ⟨⟨?_, ?_, ?_, ?_⟩, rfl, ?_, ?_, ?_⟩
  · intro i hi
    by_cases e1 : i = t
    · subst e1; simp (disch := omega) only [w_ne, w_at, wl_ne, wl_at, wc_ne, wc_at, upd_at, upd_ne, upl_at, upl_ne, cpy_in0, zn_cl, zn_add, zn_mul, zn_sub, zn_pm, br_tt, br_ff, br_ltT, br_ltF, br_leT, br_leF, br_eqT, br_eqF, br_eqs, br_eqm, br_eqm', br_ltm, br_mlt, br_lem, br_mle, br_oiF, br_lgge, br_lgle, br_lggt, br_lglt, br_lgeq, br_zb, br_zb1, bV_s, bI_s, bL_s, zo_n, zo_s, set_at]
    · simp (disch := omega) only [w_ne, w_at, wl_ne, wl_at, wc_ne, wc_at, upd_at, upd_ne, upl_at, upl_ne, cpy_in0, zn_cl, zn_add, zn_mul, zn_sub, zn_pm, br_tt, br_ff, br_ltT, br_ltF, br_leT, br_leF, br_eqT, br_eqF, br_eqs, br_eqm, br_eqm', br_ltm, br_mlt, br_lem, br_mle, br_oiF, br_lgge, br_lgle, br_lggt, br_lglt, br_lgeq, br_zb, br_zb1, bV_s, bI_s, bL_s, zo_n, zo_s, set_ne, h1]
  · simp (disch := omega) only [w_ne, w_at, wl_ne, wl_at, wc_ne, wc_at, upd_at, upd_ne, upl_at, upl_ne, cpy_in0, zn_cl, zn_add, zn_mul, zn_sub, zn_pm, br_tt, br_ff, br_ltT, br_ltF, br_leT, br_leF, br_eqT, br_eqF, br_eqs, br_eqm, br_eqm', br_ltm, br_mlt, br_lem, br_mle, br_oiF, br_lgge, br_lgle, br_lggt, br_lglt, br_lgeq, br_zb, br_zb1, bV_s, bI_s, bL_s, zo_n, zo_s, List.length_append, List.length_singleton]
  · intro i hi
    rw [List.length_append, List.length_singleton] at hi
    by_cases e1 : i = w.length
    · subst e1
      simp (disch := omega) only [w_ne, w_at, wl_ne, wl_at, wc_ne, wc_at, upd_at, upd_ne, upl_at, upl_ne, cpy_in0, zn_cl, zn_add, zn_mul, zn_sub, zn_pm, br_tt, br_ff, br_ltT, br_ltF, br_leT, br_leF, br_eqT, br_eqF, br_eqs, br_eqm, br_eqm', br_ltm, br_mlt, br_lem, br_mle, br_oiF, br_lgge, br_lgle, br_lggt, br_lglt, br_lgeq, br_zb, br_zb1, bV_s, bI_s, bL_s, zo_n, zo_s]
      simp
    · simp (disch := omega) only [w_ne, w_at, wl_ne, wl_at, wc_ne, wc_at, upd_at, upd_ne, upl_at, upl_ne, cpy_in0, zn_cl, zn_add, zn_mul, zn_sub, zn_pm, br_tt, br_ff, br_ltT, br_ltF, br_leT, br_leF, br_eqT, br_eqF, br_eqs, br_eqm, br_eqm', br_ltm, br_mlt, br_lem, br_mle, br_oiF, br_lgge, br_lgle, br_lggt, br_lglt, br_lgeq, br_zb, br_zb1, bV_s, bI_s, bL_s, zo_n, zo_s, h3]
      rw [List.getD_eq_getElem?_getD, List.getD_eq_getElem?_getD, List.getElem?_append_left (by omega)]
  · intro i q1 q2; simp (disch := omega) only [w_ne, w_at, wl_ne, wl_at, wc_ne, wc_at, upd_at, upd_ne, upl_at, upl_ne, cpy_in0, zn_cl, zn_add, zn_mul, zn_sub, zn_pm, br_tt, br_ff, br_ltT, br_ltF, br_leT, br_leF, br_eqT, br_eqF, br_eqs, br_eqm, br_eqm', br_ltm, br_mlt, br_lem, br_mle, br_oiF, br_lgge, br_lgle, br_lggt, br_lglt, br_lgeq, br_zb, br_zb1, bV_s, bI_s, bL_s, zo_n, zo_s, h4]
  · intro c c1 c2 c3; simp (disch := omega) only [w_ne, w_at, wl_ne, wl_at, wc_ne, wc_at, upd_at, upd_ne, upl_at, upl_ne, cpy_in0, zn_cl, zn_add, zn_mul, zn_sub, zn_pm, br_tt, br_ff, br_ltT, br_ltF, br_leT, br_leF, br_eqT, br_eqF, br_eqs, br_eqm, br_eqm', br_ltm, br_mlt, br_lem, br_mle, br_oiF, br_lgge, br_lgle, br_lggt, br_lglt, br_lgeq, br_zb, br_zb1, bV_s, bI_s, bL_s, zo_n, zo_s]
  · intro i hi; constructor <;> simp (disch := omega) only [w_ne, w_at, wl_ne, wl_at, wc_ne, wc_at, upd_at, upd_ne, upl_at, upl_ne, cpy_in0, zn_cl, zn_add, zn_mul, zn_sub, zn_pm, br_tt, br_ff, br_ltT, br_ltF, br_leT, br_leF, br_eqT, br_eqF, br_eqs, br_eqm, br_eqm', br_ltm, br_mlt, br_lem, br_mle, br_oiF, br_lgge, br_lgle, br_lggt, br_lglt, br_lgeq, br_zb, br_zb1, bV_s, bI_s, bL_s, zo_n, zo_s]
  · intro i hi; simp (disch := omega) only [w_ne, w_at, wl_ne, wl_at, wc_ne, wc_at, upd_at, upd_ne, upl_at, upl_ne, cpy_in0, zn_cl, zn_add, zn_mul, zn_sub, zn_pm, br_tt, br_ff, br_ltT, br_ltF, br_leT, br_leF, br_eqT, br_eqF, br_eqs, br_eqm, br_eqm', br_ltm, br_mlt, br_lem, br_mle, br_oiF, br_lgge, br_lgle, br_lggt, br_lglt, br_lgeq, br_zb, br_zb1, bV_s, bI_s, bL_s, zo_n, zo_s]
theorem lq_gath {b : Nat} (hb1 : b < 2) {T V : Td} {E : Ev} (W : tw T V) {ord : List Nat} {U : Nat → Nat} {mt : List (Nat × Nat)} {day d : Nat} {g : Nat → Int64} (r : Nat) :
    ∀ (f : Nat) (h : Hs) (w : List Nat) (x y : Option Value) (m : am_M), sp_cn (T 0 0) h ≤ r → 10 * r + 10 < f → rx T V E m → rn b T ord U mt h w day m → hwI (T 0 0) h w → (∀ q, q < T 0 0 → m.2 141 q = g q) →
    ∃ m', r_M_dusk_30 d f (zn b) (zn 1) x y m = some (none, m') ∧ rn b T ord U mt (sp_gath (T 0 0) g r h w).1 (sp_gath (T 0 0) g r h w).2 day m' ∧ frd b m m' := by
  have stop : ∀ (f : Nat) (h : Hs) (w : List Nat) (x y : Option Value) (m : am_M), 10 < f → rx T V E m → rn b T ord U mt h w day m → hwI (T 0 0) h w → (∀ q, q < T 0 0 → m.2 141 q = g q) → sp_min (fun t => (h t).isSome) g (T 0 0) 0 none = none → r_M_dusk_30 d f (zn b) (zn 1) x y m = some (none, m) := by
    intro f h w x y m h2 c s I hg e
    have := W.n
    obtain ⟨f, rfl⟩ : ∃ g, f = g + 1 := ⟨f - 1, by omega⟩
    obtain ⟨f', b1, b2⟩ := lq_next hb1 W (d := d) (x2 := zn 1) c s.hs (fun i s hi e => hw_h I hi e) hg (T 0 0) 0 f none (by omega) (by omega) (by intro j hj; cases hj)
    rw [e_M_dusk_30]
    simp (disch := omega) only [w_ne, w_at, wl_ne, wl_at, wc_ne, wc_at, upd_at, upd_ne, upl_at, upl_ne, cpy_in0, zn_cl, zn_add, zn_mul, zn_sub, zn_pm, br_tt, br_ff, br_ltT, br_ltF, br_leT, br_leF, br_eqT, br_eqF, br_eqs, br_eqm, br_eqm', br_ltm, br_mlt, br_lem, br_mle, br_oiF, br_lgge, br_lgle, br_lggt, br_lglt, br_lgeq, br_zb, br_zb1, bV_s, bI_s, bL_s, zo_n, zo_s]
    rw [← zo_n, b1, e, e_M_dusk_39]
    obtain ⟨f', rfl⟩ : ∃ g, f' = g + 1 := ⟨f' - 1, by omega⟩
    simp (disch := omega) only [w_ne, w_at, wl_ne, wl_at, wc_ne, wc_at, upd_at, upd_ne, upl_at, upl_ne, cpy_in0, zn_cl, zn_add, zn_mul, zn_sub, zn_pm, br_tt, br_ff, br_ltT, br_ltF, br_leT, br_leF, br_eqT, br_eqF, br_eqs, br_eqm, br_eqm', br_ltm, br_mlt, br_lem, br_mle, br_oiF, br_lgge, br_lgle, br_lggt, br_lglt, br_lgeq, br_zb, br_zb1, bV_s, bI_s, bL_s, zo_n, zo_s, c.n, e_M_dusk_30]
  induction r with
  | zero =>
    intro f h w x y m h1 h2 c s I hg
    have e : sp_min (fun t => (h t).isSome) g (T 0 0) 0 none = none := by
      rcases opt_c (sp_min (fun t => (h t).isSome) g (T 0 0) 0 none) with e | ⟨t, e⟩
      · exact e
      · obtain ⟨ht, q, e1⟩ := gath_pick e
        rw [cn_zero (h := h) (by omega) ht] at e1; cases e1
    exact ⟨m, stop f h w x y m (by omega) c s I hg e, s, frd_refl b m⟩
  | succ r ih =>
    intro f h w x y m h1 h2 c s I hg
    have := W.n
    rcases opt_c (sp_min (fun t => (h t).isSome) g (T 0 0) 0 none) with e | ⟨t, e⟩
    · exact ⟨m, stop f h w x y m (by omega) c s I hg e, by rw [gath_none e]; exact s, frd_refl b m⟩
    · obtain ⟨ht, q, e1⟩ := gath_pick e
      have hq := hw_h I ht e1
      have h4 : sp_ne (h t) ≤ sp_cn (T 0 0) h := sum_ge (f := fun i => sp_ne (h i)) (T 0 0) 0 t (by omega) (by omega)
      have h5 := cn_set (n := T 0 0) (h := h) (t := t) (x := none) ht
      rw [e1] at h4 h5; simp only [sp_ne, reduceCtorEq, if_false, if_true] at h4 h5
      have hl : w.length < 5 := by have h3 := I.2; omega
      obtain ⟨f, rfl⟩ : ∃ g, f = g + 1 := ⟨f - 1, by omega⟩
      obtain ⟨f', b1, b2⟩ := lq_next hb1 W (d := d) (x2 := zn 1) c s.hs (fun i s hi e => hw_h I hi e) hg (T 0 0) 0 f none (by omega) (by omega) (by intro j hj; cases hj)
      obtain ⟨a2, a3⟩ := rd_bring hb1 W.n hl s.dd ht e1
      obtain ⟨m', c1, c2, c3⟩ := ih f' (sp_set h t none) (w ++ [q]) (some (.int (zn t))) (some (.int (zn (T 0 0)))) _ (by omega) (by omega) (c.fd a3) (s.to a2 a3) (hw_bring I ht e1) (by rw [a3.1]; exact hg)
      refine ⟨m', ?_, ?_, frd_tr a3 c3⟩
      · rw [e_M_dusk_30]
        simp (disch := omega) only [w_ne, w_at, wl_ne, wl_at, wc_ne, wc_at, upd_at, upd_ne, upl_at, upl_ne, cpy_in0, zn_cl, zn_add, zn_mul, zn_sub, zn_pm, br_tt, br_ff, br_ltT, br_ltF, br_leT, br_leF, br_eqT, br_eqF, br_eqs, br_eqm, br_eqm', br_ltm, br_mlt, br_lem, br_mle, br_oiF, br_lgge, br_lgle, br_lggt, br_lglt, br_lgeq, br_zb, br_zb1, bV_s, bI_s, bL_s, zo_n, zo_s]
        rw [← zo_n, b1, e, e_M_dusk_39]
        simp (disch := omega) only [w_ne, w_at, wl_ne, wl_at, wc_ne, wc_at, upd_at, upd_ne, upl_at, upl_ne, cpy_in0, zn_cl, zn_add, zn_mul, zn_sub, zn_pm, br_tt, br_ff, br_ltT, br_ltF, br_leT, br_leF, br_eqT, br_eqF, br_eqs, br_eqm, br_eqm', br_ltm, br_mlt, br_lem, br_mle, br_oiF, br_lgge, br_lgle, br_lggt, br_lglt, br_lgeq, br_zb, br_zb1, bV_s, bI_s, bL_s, zo_n, zo_s, c.n, s.wl, s.hs, e1]
        exact c1
      · rw [gath_some e e1]; exact c2
theorem s_dusk {b : Nat} (hb1 : b < 2) {T V : Td} {E : Ev} (W : tw T V) (hE : evW E) {ord : List Nat} {U : Nat → Nat} {mt : List (Nat × Nat)} {day d : Nat} {h : Hs} {w : List Nat} {m : am_M} (c : rx T V E m) (s : rn b T ord U mt h w day m) (I : hwI (T 0 0) h w) :
    ∃ m', am_c (d + 5) y_M_dusk [.ref 107, .int (zn b)] m = some (none, m') ∧ rn b T ord U mt (sp_gat T V E day h w).1 (sp_gat T V E day h w).2 day m' ∧ fry b m m' := by
  have := W.n; have := I.2
  obtain ⟨f', m1, a1, a2, a3, a4, a5, a6⟩ := lq_late hb1 W hE (d := d) (fun i s hi e => hw_h I hi e) (T 0 0) 0 29999 m (by omega) (by omega) c s (fun q hq => by omega)
  obtain ⟨m2, b1, b2, b3⟩ := lq_gath hb1 W (d := d + 4) (T 0 0) f' h w none none m1 (by omega) (by omega) a3 a4 I a6
  refine ⟨m2, ?_, b2, fry_tr a5 b3.y⟩
  rw [n_M_dusk, a1, b1]
