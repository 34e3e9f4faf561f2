/-! the class's scanner goes on -/
theorem rs_end {d f k q : Nat} {x1 x2 : Int32} {m : am_M} (hk : k < 100) (h3 : m.1 2 3 = zn (q + 1)) (h4 : m.1 2 4 = zn k) :
    ∃ m', r_Scanner_readSign_260 d (f + 1) x1 x2 m = some (none, m') ∧ m'.2 = m.2 ∧ (∀ c, c ≠ 2 → m'.1 c = m.1 c) ∧ (∀ i, i ≠ 3 → m'.1 2 i = m.1 2 i) ∧ m'.1 2 3 = zn (q + sgl k) := by
  rw [e_Scanner_readSign_260, h3, h4, zn_add]
  unfold sgl
  by_cases g : k = 31 ∨ k = 33 ∨ k = 34
  · rw [if_pos g]
    refine ⟨(am_w m.1 2 3 (zn (q + 2)), m.2), ?_, rfl, fun c hc => by simp (disch := omega) only [w_ne, w_at, wl_ne, wl_at, wc_ne, wc_at, upd_at, upd_ne, upl_at, upl_ne, cpy_in0, zn_cl, zn_add, zn_mul, zn_sub, zn_pm, br_tt, br_ff, br_ltT, br_ltF, br_leT, br_leF, br_eqT, br_eqF, br_eqs, br_eqm, br_eqm', br_ltm, br_mlt, br_lem, br_mle, br_oiF, br_lgge, br_lgle, br_lggt, br_lglt, br_lgeq, br_zb, br_zb1, bV_s, bI_s, bL_s, zo_n, zo_s], fun i hi => by simp (disch := omega) only [w_ne, w_at, wl_ne, wl_at, wc_ne, wc_at, upd_at, upd_ne, upl_at, upl_ne, cpy_in0, zn_cl, zn_add, zn_mul, zn_sub, zn_pm, br_tt, br_ff, br_ltT, br_ltF, br_leT, br_leF, br_eqT, br_eqF, br_eqs, br_eqm, br_eqm', br_ltm, br_mlt, br_lem, br_mle, br_oiF, br_lgge, br_lgle, br_lggt, br_lglt, br_lgeq, br_zb, br_zb1, bV_s, bI_s, bL_s, zo_n, zo_s], by simp (disch := omega) only [w_ne, w_at, wl_ne, wl_at, wc_ne, wc_at, upd_at, upd_ne, upl_at, upl_ne, cpy_in0, zn_cl, zn_add, zn_mul, zn_sub, zn_pm, br_tt, br_ff, br_ltT, br_ltF, br_leT, br_leF, br_eqT, br_eqF, br_eqs, br_eqm, br_eqm', br_ltm, br_mlt, br_lem, br_mle, br_oiF, br_lgge, br_lgle, br_lggt, br_lglt, br_lgeq, br_zb, br_zb1, bV_s, bI_s, bL_s, zo_n, zo_s]⟩
    rcases g with e | e | e <;> subst e <;> simp (disch := omega) only [w_ne, w_at, wl_ne, wl_at, wc_ne, wc_at, upd_at, upd_ne, upl_at, upl_ne, cpy_in0, zn_cl, zn_add, zn_mul, zn_sub, zn_pm, br_tt, br_ff, br_ltT, br_ltF, br_leT, br_leF, br_eqT, br_eqF, br_eqs, br_eqm, br_eqm', br_ltm, br_mlt, br_lem, br_mle, br_oiF, br_lgge, br_lgle, br_lggt, br_lglt, br_lgeq, br_zb, br_zb1, bV_s, bI_s, bL_s, zo_n, zo_s]
  · rw [if_neg g]
    refine ⟨m, ?_, rfl, fun _ _ => rfl, fun _ _ => rfl, h3⟩
    rw [br_eqF (by omega) (by omega) (by omega), br_eqF (by omega) (by omega) (by omega), br_eqF (by omega) (by omega) (by omega)]
theorem s_readSign {X : Nat → Nat} {n d q : Nat} {m : am_M} (h : tC2 X n m) (hq : q < n) (h3 : m.1 2 3 = zn q) :
    ∃ m', am_c (d + 2) y_Scanner_readSign [.ref 2, .int (sb (X q))] m = some (none, m') ∧ fk m m' ∧ m'.1 2 3 = zn (q + sgl (sgk X n q)) ∧ m'.1 2 4 = zn (sgk X n q) ∧ m'.1 2 5 = m.1 2 5 := by
  have h7 := h.n; have hx := h.x q hq
  let m1 : am_M := (am_w m.1 2 3 (zn (q + 1)), m.2)
  have f1 : fk m m1 := ⟨rfl, fun c hc => by show (am_w m.1 2 3 (zn (q + 1))) c = _; simp (disch := omega) only [w_ne, w_at, wl_ne, wl_at, wc_ne, wc_at, upd_at, upd_ne, upl_at, upl_ne, cpy_in0, zn_cl, zn_add, zn_mul, zn_sub, zn_pm, br_tt, br_ff, br_ltT, br_ltF, br_leT, br_leF, br_eqT, br_eqF, br_eqs, br_eqm, br_eqm', br_ltm, br_mlt, br_lem, br_mle, br_oiF, br_lgge, br_lgle, br_lggt, br_lglt, br_lgeq, br_zb, br_zb1, bV_s, bI_s, bL_s, zo_n, zo_s], fun i hi => by show (am_w m.1 2 3 (zn (q + 1))) 2 i = _; simp (disch := omega) only [w_ne, w_at, wl_ne, wl_at, wc_ne, wc_at, upd_at, upd_ne, upl_at, upl_ne, cpy_in0, zn_cl, zn_add, zn_mul, zn_sub, zn_pm, br_tt, br_ff, br_ltT, br_ltF, br_leT, br_leF, br_eqT, br_eqF, br_eqs, br_eqm, br_eqm', br_ltm, br_mlt, br_lem, br_mle, br_oiF, br_lgge, br_lgle, br_lggt, br_lglt, br_lgeq, br_zb, br_zb1, bV_s, bI_s, bL_s, zo_n, zo_s]⟩
  have i1 := s_isS (d := d) (h.to f1) (q := q + 1) (k := 61) (by omega) (by omega) (by omega)
  have i2 := s_isS (d := d) (h.to f1) (q := q + 1) (k := 62) (by omega) (by omega) (by omega)
  have fin : ∀ k x2, k < 100 → ∃ m', r_Scanner_readSign_260 (d + 1) 29999 (sb (X q)) x2 (am_w m1.1 2 4 (zn k), m1.2) = some (none, m') ∧ fk m m' ∧ m'.1 2 3 = zn (q + sgl k) ∧ m'.1 2 4 = zn k ∧ m'.1 2 5 = m.1 2 5 := by
    intro k x2 hk
    obtain ⟨m', b1, b2, b3, b4, b5⟩ := rs_end (d := d + 1) (f := 29998) (k := k) (q := q) (x1 := sb (X q)) (x2 := x2) (m := (am_w m1.1 2 4 (zn k), m1.2)) hk (by show (am_w (am_w m.1 2 3 (zn (q + 1))) 2 4 (zn k)) 2 3 = _; simp (disch := omega) only [w_ne, w_at, wl_ne, wl_at, wc_ne, wc_at, upd_at, upd_ne, upl_at, upl_ne, cpy_in0, zn_cl, zn_add, zn_mul, zn_sub, zn_pm, br_tt, br_ff, br_ltT, br_ltF, br_leT, br_leF, br_eqT, br_eqF, br_eqs, br_eqm, br_eqm', br_ltm, br_mlt, br_lem, br_mle, br_oiF, br_lgge, br_lgle, br_lggt, br_lglt, br_lgeq, br_zb, br_zb1, bV_s, bI_s, bL_s, zo_n, zo_s]) (by show (am_w (am_w m.1 2 3 (zn (q + 1))) 2 4 (zn k)) 2 4 = _; simp (disch := omega) only [w_ne, w_at, wl_ne, wl_at, wc_ne, wc_at, upd_at, upd_ne, upl_at, upl_ne, cpy_in0, zn_cl, zn_add, zn_mul, zn_sub, zn_pm, br_tt, br_ff, br_ltT, br_ltF, br_leT, br_leF, br_eqT, br_eqF, br_eqs, br_eqm, br_eqm', br_ltm, br_mlt, br_lem, br_mle, br_oiF, br_lgge, br_lgle, br_lggt, br_lglt, br_lgeq, br_zb, br_zb1, bV_s, bI_s, bL_s, zo_n, zo_s])
    refine ⟨m', b1, ⟨b2, fun c hc => by rw [b3 c hc]; show (am_w (am_w m.1 2 3 (zn (q + 1))) 2 4 (zn k)) c = _; simp (disch := omega) only [w_ne, w_at, wl_ne, wl_at, wc_ne, wc_at, upd_at, upd_ne, upl_at, upl_ne, cpy_in0, zn_cl, zn_add, zn_mul, zn_sub, zn_pm, br_tt, br_ff, br_ltT, br_ltF, br_leT, br_leF, br_eqT, br_eqF, br_eqs, br_eqm, br_eqm', br_ltm, br_mlt, br_lem, br_mle, br_oiF, br_lgge, br_lgle, br_lggt, br_lglt, br_lgeq, br_zb, br_zb1, bV_s, bI_s, bL_s, zo_n, zo_s], fun i hi => by rw [b4 i (by omega)]; show (am_w (am_w m.1 2 3 (zn (q + 1))) 2 4 (zn k)) 2 i = _; simp (disch := omega) only [w_ne, w_at, wl_ne, wl_at, wc_ne, wc_at, upd_at, upd_ne, upl_at, upl_ne, cpy_in0, zn_cl, zn_add, zn_mul, zn_sub, zn_pm, br_tt, br_ff, br_ltT, br_ltF, br_leT, br_leF, br_eqT, br_eqF, br_eqs, br_eqm, br_eqm', br_ltm, br_mlt, br_lem, br_mle, br_oiF, br_lgge, br_lgle, br_lggt, br_lglt, br_lgeq, br_zb, br_zb1, bV_s, bI_s, bL_s, zo_n, zo_s]⟩, b5, ?_, ?_⟩
    · rw [b4 4 (by omega)]; show (am_w (am_w m.1 2 3 (zn (q + 1))) 2 4 (zn k)) 2 4 = _; simp (disch := omega) only [w_ne, w_at, wl_ne, wl_at, wc_ne, wc_at, upd_at, upd_ne, upl_at, upl_ne, cpy_in0, zn_cl, zn_add, zn_mul, zn_sub, zn_pm, br_tt, br_ff, br_ltT, br_ltF, br_leT, br_leF, br_eqT, br_eqF, br_eqs, br_eqm, br_eqm', br_ltm, br_mlt, br_lem, br_mle, br_oiF, br_lgge, br_lgle, br_lggt, br_lglt, br_lgeq, br_zb, br_zb1, bV_s, bI_s, bL_s, zo_n, zo_s]
    · rw [b4 5 (by omega)]; show (am_w (am_w m.1 2 3 (zn (q + 1))) 2 4 (zn k)) 2 5 = _; simp (disch := omega) only [w_ne, w_at, wl_ne, wl_at, wc_ne, wc_at, upd_at, upd_ne, upl_at, upl_ne, cpy_in0, zn_cl, zn_add, zn_mul, zn_sub, zn_pm, br_tt, br_ff, br_ltT, br_ltF, br_leT, br_leF, br_eqT, br_eqF, br_eqs, br_eqm, br_eqm', br_ltm, br_mlt, br_lem, br_mle, br_oiF, br_lgge, br_lgle, br_lggt, br_lglt, br_lgeq, br_zb, br_zb1, bV_s, bI_s, bL_s, zo_n, zo_s]
  have m13 : m1.1 2 3 = zn (q + 1) := by show (am_w m.1 2 3 (zn (q + 1))) 2 3 = _; simp (disch := omega) only [w_ne, w_at, wl_ne, wl_at, wc_ne, wc_at, upd_at, upd_ne, upl_at, upl_ne, cpy_in0, zn_cl, zn_add, zn_mul, zn_sub, zn_pm, br_tt, br_ff, br_ltT, br_ltF, br_leT, br_leF, br_eqT, br_eqF, br_eqs, br_eqm, br_eqm', br_ltm, br_mlt, br_lem, br_mle, br_oiF, br_lgge, br_lgle, br_lggt, br_lglt, br_lgeq, br_zb, br_zb1, bV_s, bI_s, bL_s, zo_n, zo_s]
  have i1' : am_c (d + 1) y_Scanner_isSign [.ref 2, .int (zn (q + 1)), .int (zn 61)] (am_w m.1 2 3 (zn (q + 1)), m.2) = some (some (.int (zb (decide (nxt1 X n q = 61)))), m1) := i1
  rw [n_Scanner_readSign, h3, zn_add, i1', bI_s]
  by_cases c40 : X q = 40
  · have e : sgk X n q = 28 := by unfold sgk; rw [c40]; rfl
    rw [e, br_sb hx (k := 40) (by omega), if_pos c40]; exact fin 28 _ (by omega)
  rw [br_sb hx (k := 40) (by omega), if_neg c40]
  by_cases c41 : X q = 41
  · have e : sgk X n q = 29 := by unfold sgk; rw [c41]; rfl
    rw [e, br_sb hx (k := 41) (by omega), if_pos c41]; exact fin 29 _ (by omega)
  rw [br_sb hx (k := 41) (by omega), if_neg c41]
  by_cases c42 : X q = 42
  · have e : sgk X n q = 38 := by unfold sgk; rw [c42]; rfl
    rw [e, br_sb hx (k := 42) (by omega), if_pos c42]; exact fin 38 _ (by omega)
  rw [br_sb hx (k := 42) (by omega), if_neg c42]
  by_cases c43 : X q = 43
  · have e : sgk X n q = 36 := by unfold sgk; rw [c43]; rfl
    rw [e, br_sb hx (k := 43) (by omega), if_pos c43]; exact fin 36 _ (by omega)
  rw [br_sb hx (k := 43) (by omega), if_neg c43]
  by_cases c44 : X q = 44
  · have e : sgk X n q = 41 := by unfold sgk; rw [c44]; rfl
    rw [e, br_sb hx (k := 44) (by omega), if_pos c44]; exact fin 41 _ (by omega)
  rw [br_sb hx (k := 44) (by omega), if_neg c44]
  by_cases c45 : X q = 45
  · have e : sgk X n q = 37 := by unfold sgk; rw [c45]; rfl
    rw [e, br_sb hx (k := 45) (by omega), if_pos c45]; exact fin 37 _ (by omega)
  rw [br_sb hx (k := 45) (by omega), if_neg c45]
  by_cases c46 : X q = 46
  · have e : sgk X n q = 41 := by unfold sgk; rw [c46]; rfl
    rw [e, br_sb hx (k := 46) (by omega), if_pos c46]; exact fin 41 _ (by omega)
  rw [br_sb hx (k := 46) (by omega), if_neg c46]
  by_cases c47 : X q = 47
  · have e : sgk X n q = 39 := by unfold sgk; rw [c47]; rfl
    rw [e, br_sb hx (k := 47) (by omega), if_pos c47]; exact fin 39 _ (by omega)
  rw [br_sb hx (k := 47) (by omega), if_neg c47]
  by_cases c48 : X q = 48
  · have e : sgk X n q = 41 := by unfold sgk; rw [c48]; rfl
    rw [e, br_sb hx (k := 48) (by omega), if_pos c48]; exact fin 41 _ (by omega)
  rw [br_sb hx (k := 48) (by omega), if_neg c48]
  by_cases c49 : X q = 49
  · have e : sgk X n q = 41 := by unfold sgk; rw [c49]; rfl
    rw [e, br_sb hx (k := 49) (by omega), if_pos c49]; exact fin 41 _ (by omega)
  rw [br_sb hx (k := 49) (by omega), if_neg c49]
  by_cases c50 : X q = 50
  · have e : sgk X n q = 41 := by unfold sgk; rw [c50]; rfl
    rw [e, br_sb hx (k := 50) (by omega), if_pos c50]; exact fin 41 _ (by omega)
  rw [br_sb hx (k := 50) (by omega), if_neg c50]
  by_cases c51 : X q = 51
  · have e : sgk X n q = 41 := by unfold sgk; rw [c51]; rfl
    rw [e, br_sb hx (k := 51) (by omega), if_pos c51]; exact fin 41 _ (by omega)
  rw [br_sb hx (k := 51) (by omega), if_neg c51]
  by_cases c52 : X q = 52
  · have e : sgk X n q = 41 := by unfold sgk; rw [c52]; rfl
    rw [e, br_sb hx (k := 52) (by omega), if_pos c52]; exact fin 41 _ (by omega)
  rw [br_sb hx (k := 52) (by omega), if_neg c52]
  by_cases c53 : X q = 53
  · have e : sgk X n q = 41 := by unfold sgk; rw [c53]; rfl
    rw [e, br_sb hx (k := 53) (by omega), if_pos c53]; exact fin 41 _ (by omega)
  rw [br_sb hx (k := 53) (by omega), if_neg c53]
  by_cases c54 : X q = 54
  · have e : sgk X n q = 41 := by unfold sgk; rw [c54]; rfl
    rw [e, br_sb hx (k := 54) (by omega), if_pos c54]; exact fin 41 _ (by omega)
  rw [br_sb hx (k := 54) (by omega), if_neg c54]
  by_cases c55 : X q = 55
  · have e : sgk X n q = 41 := by unfold sgk; rw [c55]; rfl
    rw [e, br_sb hx (k := 55) (by omega), if_pos c55]; exact fin 41 _ (by omega)
  rw [br_sb hx (k := 55) (by omega), if_neg c55]
  by_cases c56 : X q = 56
  · have e : sgk X n q = 41 := by unfold sgk; rw [c56]; rfl
    rw [e, br_sb hx (k := 56) (by omega), if_pos c56]; exact fin 41 _ (by omega)
  rw [br_sb hx (k := 56) (by omega), if_neg c56]
  by_cases c57 : X q = 57
  · have e : sgk X n q = 41 := by unfold sgk; rw [c57]; rfl
    rw [e, br_sb hx (k := 57) (by omega), if_pos c57]; exact fin 41 _ (by omega)
  rw [br_sb hx (k := 57) (by omega), if_neg c57]
  by_cases c58 : X q = 58
  · have e : sgk X n q = 41 := by unfold sgk; rw [c58]; rfl
    rw [e, br_sb hx (k := 58) (by omega), if_pos c58]; exact fin 41 _ (by omega)
  rw [br_sb hx (k := 58) (by omega), if_neg c58]
  by_cases c59 : X q = 59
  · have e : sgk X n q = 27 := by unfold sgk; rw [c59]; rfl
    rw [e, br_sb hx (k := 59) (by omega), if_pos c59]; exact fin 27 _ (by omega)
  rw [br_sb hx (k := 59) (by omega), if_neg c59]
  by_cases c60 : X q = 60
  · have e : sgk X n q = (if nxt1 X n q = 61 then 31 else if nxt1 X n q = 62 then 33 else 30) := by unfold sgk; rw [c60]; rfl
    rw [e, br_sb hx (k := 60) (by omega), if_pos c60, br_zb]
    by_cases g : nxt1 X n q = 61
    · rw [decide_eq_true g, if_pos rfl, if_pos g]; exact fin 31 _ (by omega)
    · have i2' : am_c (d + 1) y_Scanner_isSign [.ref 2, .int (m1.1 2 3), .int (zn 62)] m1 = some (some (.int (zb (decide (nxt1 X n q = 62)))), m1) := by rw [m13]; exact i2
      rw [decide_eq_false g, if_neg (by simp), if_neg g, i2', bI_s, br_zb]
      by_cases g2 : nxt1 X n q = 62
      · rw [decide_eq_true g2, if_pos rfl, if_pos g2]; exact fin 33 _ (by omega)
      · rw [decide_eq_false g2, if_neg (by simp), if_neg g2]; exact fin 30 _ (by omega)
  rw [br_sb hx (k := 60) (by omega), if_neg c60]
  by_cases c61 : X q = 61
  · have e : sgk X n q = 32 := by unfold sgk; rw [c61]; rfl
    rw [e, br_sb hx (k := 61) (by omega), if_pos c61]; exact fin 32 _ (by omega)
  rw [br_sb hx (k := 61) (by omega), if_neg c61]
  by_cases c62 : X q = 62
  · have e : sgk X n q = (if nxt1 X n q = 61 then 34 else 35) := by unfold sgk; rw [c62]; rfl
    rw [e, br_sb hx (k := 62) (by omega), if_pos c62, br_zb]
    by_cases g : nxt1 X n q = 61
    · rw [decide_eq_true g, if_pos rfl, if_pos g]; exact fin 34 _ (by omega)
    · rw [decide_eq_false g, if_neg (by simp), if_neg g]; exact fin 35 _ (by omega)
  rw [br_sb hx (k := 62) (by omega), if_neg c62]
  have e : sgk X n q = 41 := by
    unfold sgk
    rw [if_neg c40, if_neg c41, if_neg c42, if_neg c43, if_neg c45, if_neg c47, if_neg c59, if_neg c60, if_neg c61, if_neg c62]
  rw [e]
  exact fin 41 _ (by omega)
theorem sgk_ne {X : Nat → Nat} {n q : Nat} : sgk X n q ≠ 25 ∧ sgk X n q ≠ 26 ∧ sgk X n q < 42 ∧ 27 ≤ sgk X n q ∧ sgk X n q ≠ 40 := by
  unfold sgk
  repeat' split
  all_goals omega
/-- the class's next token -/
theorem s_advance {X : Nat → Nat} {n p d : Nat} {m : am_M} (h : tC2 X n m) (hp : p ≤ n) (h3 : m.1 2 3 = zn p) : ∃ m', am_c (d + 3) y_Scanner_advance [.ref 2] m = some (none, m') ∧ kC (tok X n p) m' ∧ fk m m' := by
  have h7 := h.n
  obtain ⟨f', m1, a1, a2, a3, a4, a5⟩ := lp_skip (d := d + 2) (n - p) p 30000 m (by omega) (by omega) h h3
  have f1 : fk m m1 := ⟨a2, a3, fun i hi => a4 i (by omega)⟩
  have t1 := h.to f1
  have hq := rn_le (P := fun j => blk (X j)) (n - p) p
  have a5' : m1.1 2 3 = zn (tkq X n p) := a5
  have hqn : tkq X n p ≤ n := by unfold tkq; omega
  rw [n_Scanner_advance, a1]
  unfold tok
  by_cases g : n ≤ tkq X n p
  · rw [if_pos g, e_Scanner_advance_0, t1.l, a5', br_leT g (by omega), br_ltF (by omega) (by omega)]
    exact ⟨_, rfl, ⟨by simp (disch := omega) only [w_ne, w_at, wl_ne, wl_at, wc_ne, wc_at, upd_at, upd_ne, upl_at, upl_ne, cpy_in0, zn_cl, zn_add, zn_mul, zn_sub, zn_pm, br_tt, br_ff, br_ltT, br_ltF, br_leT, br_leF, br_eqT, br_eqF, br_eqs, br_eqm, br_eqm', br_ltm, br_mlt, br_lem, br_mle, br_oiF, br_lgge, br_lgle, br_lggt, br_lglt, br_lgeq, br_zb, br_zb1, bV_s, bI_s, bL_s, zo_n, zo_s, a5'], by simp (disch := omega) only [w_ne, w_at, wl_ne, wl_at, wc_ne, wc_at, upd_at, upd_ne, upl_at, upl_ne, cpy_in0, zn_cl, zn_add, zn_mul, zn_sub, zn_pm, br_tt, br_ff, br_ltT, br_ltF, br_leT, br_leF, br_eqT, br_eqF, br_eqs, br_eqm, br_eqm', br_ltm, br_mlt, br_lem, br_mle, br_oiF, br_lgge, br_lgle, br_lggt, br_lglt, br_lgeq, br_zb, br_zb1, bV_s, bI_s, bL_s, zo_n, zo_s], by simp (disch := omega) only [w_ne, w_at, wl_ne, wl_at, wc_ne, wc_at, upd_at, upd_ne, upl_at, upl_ne, cpy_in0, zn_cl, zn_add, zn_mul, zn_sub, zn_pm, br_tt, br_ff, br_ltT, br_ltF, br_leT, br_leF, br_eqT, br_eqF, br_eqs, br_eqm, br_eqm', br_ltm, br_mlt, br_lem, br_mle, br_oiF, br_lgge, br_lgle, br_lggt, br_lglt, br_lgeq, br_zb, br_zb1, bV_s, bI_s, bL_s, zo_n, zo_s], fun e => by simp at e, fun e => by simp at e⟩, fk_tr f1 ⟨rfl, fun c hc => by simp (disch := omega) only [w_ne, w_at, wl_ne, wl_at, wc_ne, wc_at, upd_at, upd_ne, upl_at, upl_ne, cpy_in0, zn_cl, zn_add, zn_mul, zn_sub, zn_pm, br_tt, br_ff, br_ltT, br_ltF, br_leT, br_leF, br_eqT, br_eqF, br_eqs, br_eqm, br_eqm', br_ltm, br_mlt, br_lem, br_mle, br_oiF, br_lgge, br_lgle, br_lggt, br_lglt, br_lgeq, br_zb, br_zb1, bV_s, bI_s, bL_s, zo_n, zo_s], fun i hi => by simp (disch := omega) only [w_ne, w_at, wl_ne, wl_at, wc_ne, wc_at, upd_at, upd_ne, upl_at, upl_ne, cpy_in0, zn_cl, zn_add, zn_mul, zn_sub, zn_pm, br_tt, br_ff, br_ltT, br_ltF, br_leT, br_leF, br_eqT, br_eqF, br_eqs, br_eqm, br_eqm', br_ltm, br_mlt, br_lem, br_mle, br_oiF, br_lgge, br_lgle, br_lggt, br_lglt, br_lgeq, br_zb, br_zb1, bV_s, bI_s, bL_s, zo_n, zo_s]⟩⟩
  · rw [if_neg g]
    have hlt : tkq X n p < n := by omega
    have hx := h.x _ hlt
    have hb : blk (X (tkq X n p)) = false := rn_st (P := fun j => blk (X j)) (n - p) p (by show tkq X n p < _; omega)
    unfold blk at hb
    rw [decide_eq_false_iff_not] at hb
    let m2 : am_M := (am_w m1.1 2 5 (zn (tkq X n p)), m1.2)
    have f2 : fk m1 m2 := ⟨rfl, fun c hc => by show (am_w m1.1 2 5 (zn (tkq X n p))) c = _; simp (disch := omega) only [w_ne, w_at, wl_ne, wl_at, wc_ne, wc_at, upd_at, upd_ne, upl_at, upl_ne, cpy_in0, zn_cl, zn_add, zn_mul, zn_sub, zn_pm, br_tt, br_ff, br_ltT, br_ltF, br_leT, br_leF, br_eqT, br_eqF, br_eqs, br_eqm, br_eqm', br_ltm, br_mlt, br_lem, br_mle, br_oiF, br_lgge, br_lgle, br_lggt, br_lglt, br_lgeq, br_zb, br_zb1, bV_s, bI_s, bL_s, zo_n, zo_s], fun i hi => by show (am_w m1.1 2 5 (zn (tkq X n p))) 2 i = _; simp (disch := omega) only [w_ne, w_at, wl_ne, wl_at, wc_ne, wc_at, upd_at, upd_ne, upl_at, upl_ne, cpy_in0, zn_cl, zn_add, zn_mul, zn_sub, zn_pm, br_tt, br_ff, br_ltT, br_ltF, br_leT, br_leF, br_eqT, br_eqF, br_eqs, br_eqm, br_eqm', br_ltm, br_mlt, br_lem, br_mle, br_oiF, br_lgge, br_lgle, br_lggt, br_lglt, br_lgeq, br_zb, br_zb1, bV_s, bI_s, bL_s, zo_n, zo_s]⟩
    have t2 := t1.to f2
    have m23 : m2.1 2 3 = zn (tkq X n p) := by show (am_w m1.1 2 5 (zn (tkq X n p))) 2 3 = _; simp (disch := omega) only [w_ne, w_at, wl_ne, wl_at, wc_ne, wc_at, upd_at, upd_ne, upl_at, upl_ne, cpy_in0, zn_cl, zn_add, zn_mul, zn_sub, zn_pm, br_tt, br_ff, br_ltT, br_ltF, br_leT, br_leF, br_eqT, br_eqF, br_eqs, br_eqm, br_eqm', br_ltm, br_mlt, br_lem, br_mle, br_oiF, br_lgge, br_lgle, br_lggt, br_lglt, br_lgeq, br_zb, br_zb1, bV_s, bI_s, bL_s, zo_n, zo_s, a5']
    have m25 : m2.1 2 5 = zn (tkq X n p) := by show (am_w m1.1 2 5 (zn (tkq X n p))) 2 5 = _; simp (disch := omega) only [w_ne, w_at, wl_ne, wl_at, wc_ne, wc_at, upd_at, upd_ne, upl_at, upl_ne, cpy_in0, zn_cl, zn_add, zn_mul, zn_sub, zn_pm, br_tt, br_ff, br_ltT, br_ltF, br_leT, br_leF, br_eqT, br_eqF, br_eqs, br_eqm, br_eqm', br_ltm, br_mlt, br_lem, br_mle, br_oiF, br_lgge, br_lgle, br_lggt, br_lglt, br_lgeq, br_zb, br_zb1, bV_s, bI_s, bL_s, zo_n, zo_s]
    have i1 : am_c (d + 2) y_Scanner_isLetter [.ref 2, .int (zn (tkq X n p))] (am_w m1.1 2 5 (zn (tkq X n p)), m1.2) = some (some (.int (zb (ltr (X (tkq X n p))))), m2) := s_isL t2 hlt
    have i2 : am_c (d + 2) y_Scanner_isDigit [.ref 2, .int (zn (tkq X n p))] m2 = some (some (.int (zb (dgi (X (tkq X n p))))), m2) := s_isD t2 hlt
    rw [e_Scanner_advance_0, t1.l, a5', br_leF hlt (by omega), br_oiF (by omega) (by omega), br_oiF (by omega) (by omega), zn_cl (by omega), t1.b _ hlt, br_sb hx (by omega), br_sb hx (by omega), if_neg (fun e => hb (Or.inl e)), if_neg (fun e => hb (Or.inr e)), br_ltT hlt (by omega), i1, bI_s, br_zb]
    by_cases gl : ltr (X (tkq X n p)) = true
    · rw [if_pos gl, if_pos gl, n_Scanner_readWord]
      have f3 : fk m2 (am_w m2.1 2 6 (zn 0), m2.2) := ⟨rfl, fun c hc => by simp (disch := omega) only [w_ne, w_at, wl_ne, wl_at, wc_ne, wc_at, upd_at, upd_ne, upl_at, upl_ne, cpy_in0, zn_cl, zn_add, zn_mul, zn_sub, zn_pm, br_tt, br_ff, br_ltT, br_ltF, br_leT, br_leF, br_eqT, br_eqF, br_eqs, br_eqm, br_eqm', br_ltm, br_mlt, br_lem, br_mle, br_oiF, br_lgge, br_lgle, br_lggt, br_lglt, br_lgeq, br_zb, br_zb1, bV_s, bI_s, bL_s, zo_n, zo_s], fun i hi => by simp (disch := omega) only [w_ne, w_at, wl_ne, wl_at, wc_ne, wc_at, upd_at, upd_ne, upl_at, upl_ne, cpy_in0, zn_cl, zn_add, zn_mul, zn_sub, zn_pm, br_tt, br_ff, br_ltT, br_ltF, br_leT, br_leF, br_eqT, br_eqF, br_eqs, br_eqm, br_eqm', br_ltm, br_mlt, br_lem, br_mle, br_oiF, br_lgge, br_lgle, br_lggt, br_lglt, br_lgeq, br_zb, br_zb1, bV_s, bI_s, bL_s, zo_n, zo_s]⟩
      obtain ⟨f4, m4, b1, b0, b2, b3, b4, b5, b6⟩ := lp_word (d := d) (a := tkq X n p) (n - tkq X n p) 0 29999 none (am_w m2.1 2 6 (zn 0), m2.2) (by omega) (by omega) (t2.to f3) (by simp (disch := omega) only [w_ne, w_at, wl_ne, wl_at, wc_ne, wc_at, upd_at, upd_ne, upl_at, upl_ne, cpy_in0, zn_cl, zn_add, zn_mul, zn_sub, zn_pm, br_tt, br_ff, br_ltT, br_ltF, br_leT, br_leF, br_eqT, br_eqF, br_eqs, br_eqm, br_eqm', br_ltm, br_mlt, br_lem, br_mle, br_oiF, br_lgge, br_lgle, br_lggt, br_lglt, br_lgeq, br_zb, br_zb1, bV_s, bI_s, bL_s, zo_n, zo_s, m23, Nat.add_zero]) (by simp (disch := omega) only [w_ne, w_at, wl_ne, wl_at, wc_ne, wc_at, upd_at, upd_ne, upl_at, upl_ne, cpy_in0, zn_cl, zn_add, zn_mul, zn_sub, zn_pm, br_tt, br_ff, br_ltT, br_ltF, br_leT, br_leF, br_eqT, br_eqF, br_eqs, br_eqm, br_eqm', br_ltm, br_mlt, br_lem, br_mle, br_oiF, br_lgge, br_lgle, br_lggt, br_lglt, br_lgeq, br_zb, br_zb1, bV_s, bI_s, bL_s, zo_n, zo_s, m25]) (by simp (disch := omega) only [w_ne, w_at, wl_ne, wl_at, wc_ne, wc_at, upd_at, upd_ne, upl_at, upl_ne, cpy_in0, zn_cl, zn_add, zn_mul, zn_sub, zn_pm, br_tt, br_ff, br_ltT, br_ltF, br_leT, br_leF, br_eqT, br_eqF, br_eqs, br_eqm, br_eqm', br_ltm, br_mlt, br_lem, br_mle, br_oiF, br_lgge, br_lgle, br_lggt, br_lglt, br_lgeq, br_zb, br_zb1, bV_s, bI_s, bL_s, zo_n, zo_s]; rfl) (fun j hj => by omega)
      rw [Nat.add_zero] at b3 b5 b6
      have b3' : m4.1 2 3 = zn (tkw X n (tkq X n p)) := b3
      have hwl := rn_le (P := fun j => ltr (X j)) (n - tkq X n p) (tkq X n p)
      have hal := rn_al (P := fun j => ltr (X j)) (n - tkq X n p) (tkq X n p)
      by_cases g6 : 6 < tkw X n (tkq X n p) - tkq X n p
      · have b6' : m4.1 2 4 = zn 41 := by rw [b6]; exact if_pos g6
        obtain ⟨f4, rfl⟩ : ∃ g, f4 = g + 1 := ⟨f4 - 1, by omega⟩
        rw [if_pos g6, b1, e_Scanner_readWord_110, b6', br_leF (by omega) (by omega), br_eqF (by omega) (by omega) (by omega), bV_s]
        exact ⟨m4, rfl, ⟨b3', b6', b4, fun e => by simp at e, fun e => by simp at e⟩, fk_tr f1 (fk_tr f2 (fk_tr f3 b2))⟩
      · have b6' : m4.1 2 4 = zn 25 := by rw [b6]; exact if_neg g6
        have hcl := pkp_lt (X := X) (a := tkq X n p) (tkw X n (tkq X n p) - tkq X n p) (by omega) (fun j hj => by
          have : 97 ≤ X (tkq X n p + j) ∧ X (tkq X n p + j) ≤ 122 := of_decide_eq_true (hal (tkq X n p + j) (by omega) (by show _ < tkw X n (tkq X n p); omega))
          omega)
        have hp1 : 0 < 2 ^ (5 * (6 - (tkw X n (tkq X n p) - tkq X n p))) := Nat.pow_pos (by omega)
        obtain ⟨m5, c1, c2, c3, c4, c5⟩ := lp_lang (X := X) (n := n) (d := d + 1) (c := pkp X (tkq X n p) (tkw X n (tkq X n p) - tkq X n p)) (by omega) 25 0 f4 m4 (by omega) (by omega) ((t2.to f3).to b2) b6' b5
        rw [if_neg g6, b1, c1, bV_s]
        have hkx := kx_le (c := pkp X (tkq X n p) (tkw X n (tkq X n p) - tkq X n p)) 25 0 (by omega)
        exact ⟨m5, rfl, ⟨by rw [c4 3 (by omega)]; exact b3', c5, by rw [c4 5 (by omega)]; exact b4, fun _ => by rw [c4 6 (by omega)]; exact b5, fun e => by have e' : kx (pkp X (tkq X n p) (tkw X n (tkq X n p) - tkq X n p)) 25 0 = 26 := e; omega⟩, fk_tr f1 (fk_tr f2 (fk_tr f3 (fk_tr b2 ⟨c2, c3, fun i hi => c4 i (by omega)⟩)))⟩
    · rw [if_neg gl, if_neg gl, m23, i2, bI_s, br_zb]
      by_cases gd : dgi (X (tkq X n p)) = true
      · rw [if_pos gd, if_pos gd, n_Scanner_readNumber]
        have f3 : fk m2 (am_w (am_w m2.1 2 4 (zn 26)) 2 7 (zn 0), m2.2) := ⟨rfl, fun c hc => by simp (disch := omega) only [w_ne, w_at, wl_ne, wl_at, wc_ne, wc_at, upd_at, upd_ne, upl_at, upl_ne, cpy_in0, zn_cl, zn_add, zn_mul, zn_sub, zn_pm, br_tt, br_ff, br_ltT, br_ltF, br_leT, br_leF, br_eqT, br_eqF, br_eqs, br_eqm, br_eqm', br_ltm, br_mlt, br_lem, br_mle, br_oiF, br_lgge, br_lgle, br_lggt, br_lglt, br_lgeq, br_zb, br_zb1, bV_s, bI_s, bL_s, zo_n, zo_s], fun i hi => by simp (disch := omega) only [w_ne, w_at, wl_ne, wl_at, wc_ne, wc_at, upd_at, upd_ne, upl_at, upl_ne, cpy_in0, zn_cl, zn_add, zn_mul, zn_sub, zn_pm, br_tt, br_ff, br_ltT, br_ltF, br_leT, br_leF, br_eqT, br_eqF, br_eqs, br_eqm, br_eqm', br_ltm, br_mlt, br_lem, br_mle, br_oiF, br_lgge, br_lgle, br_lggt, br_lglt, br_lgeq, br_zb, br_zb1, bV_s, bI_s, bL_s, zo_n, zo_s]⟩
        obtain ⟨m4, b1, b2, b3, b4, b5, b6⟩ := lp_num (d := d) (n - tkq X n p) (tkq X n p) 29999 0 (am_w (am_w m2.1 2 4 (zn 26)) 2 7 (zn 0), m2.2) (by omega) (by omega) (by omega) (t2.to f3) (by simp (disch := omega) only [w_ne, w_at, wl_ne, wl_at, wc_ne, wc_at, upd_at, upd_ne, upl_at, upl_ne, cpy_in0, zn_cl, zn_add, zn_mul, zn_sub, zn_pm, br_tt, br_ff, br_ltT, br_ltF, br_leT, br_leF, br_eqT, br_eqF, br_eqs, br_eqm, br_eqm', br_ltm, br_mlt, br_lem, br_mle, br_oiF, br_lgge, br_lgle, br_lggt, br_lglt, br_lgeq, br_zb, br_zb1, bV_s, bI_s, bL_s, zo_n, zo_s, m23]) (by simp (disch := omega) only [w_ne, w_at, wl_ne, wl_at, wc_ne, wc_at, upd_at, upd_ne, upl_at, upl_ne, cpy_in0, zn_cl, zn_add, zn_mul, zn_sub, zn_pm, br_tt, br_ff, br_ltT, br_ltF, br_leT, br_leF, br_eqT, br_eqF, br_eqs, br_eqm, br_eqm', br_ltm, br_mlt, br_lem, br_mle, br_oiF, br_lgge, br_lgle, br_lggt, br_lglt, br_lgeq, br_zb, br_zb1, bV_s, bI_s, bL_s, zo_n, zo_s])
        rw [b1, bV_s]
        exact ⟨m4, rfl, ⟨b5, by rw [b4 4 (by omega) (by omega)]; simp (disch := omega) only [w_ne, w_at, wl_ne, wl_at, wc_ne, wc_at, upd_at, upd_ne, upl_at, upl_ne, cpy_in0, zn_cl, zn_add, zn_mul, zn_sub, zn_pm, br_tt, br_ff, br_ltT, br_ltF, br_leT, br_leF, br_eqT, br_eqF, br_eqs, br_eqm, br_eqm', br_ltm, br_mlt, br_lem, br_mle, br_oiF, br_lgge, br_lgle, br_lggt, br_lglt, br_lgeq, br_zb, br_zb1, bV_s, bI_s, bL_s, zo_n, zo_s], by rw [b4 5 (by omega) (by omega)]; simp (disch := omega) only [w_ne, w_at, wl_ne, wl_at, wc_ne, wc_at, upd_at, upd_ne, upl_at, upl_ne, cpy_in0, zn_cl, zn_add, zn_mul, zn_sub, zn_pm, br_tt, br_ff, br_ltT, br_ltF, br_leT, br_leF, br_eqT, br_eqF, br_eqs, br_eqm, br_eqm', br_ltm, br_mlt, br_lem, br_mle, br_oiF, br_lgge, br_lgle, br_lggt, br_lglt, br_lgeq, br_zb, br_zb1, bV_s, bI_s, bL_s, zo_n, zo_s, m25], fun e => by simp at e, fun _ => b6⟩, fk_tr f1 (fk_tr f2 (fk_tr f3 ⟨b2, b3, fun i hi => b4 i (by omega) (by omega)⟩))⟩
      · have hb2 : m2.1 3 (tkq X n p) = sb (X (tkq X n p)) := t2.b _ hlt
        obtain ⟨m4, b1, b2, b3, b4, b5⟩ := s_readSign (d := d) t2 hlt m23
        have hs := sgk_ne (X := X) (n := n) (q := tkq X n p)
        rw [if_neg gd, if_neg gd, m23, br_oiF (by omega) (by omega), zn_cl (by omega), hb2, b1, bV_s]
        exact ⟨m4, rfl, ⟨b3, b4, by rw [b5]; exact m25, fun e => absurd e hs.1, fun e => absurd e hs.2.1⟩, fk_tr f1 (fk_tr f2 b2)⟩
