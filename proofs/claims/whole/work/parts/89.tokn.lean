/-! the reference's signs; its next token -/
theorem s_signT {X : Nat → Nat} {n d q : Nat} {m : am_M} (h : tR2 X n m) (hq : q < n) (h7 : m.1 107 7 = zn q) :
    ∃ m', am_c (d + 1) y_M_signToken [.ref 107] m = some (none, m') ∧ fkR m m' ∧ m'.1 107 7 = zn (q + sgl (sgk X n q)) ∧ m'.1 107 10 = m.1 107 10 ∧ rtk (sgk X n q) 0 (m'.1 107 8) (m'.1 107 9) := by
  have hn := h.n; have hx := h.x q hq
  let m1 : am_M := (am_w (am_w m.1 107 9 (zn (X q))) 107 7 (zn (q + 1)), m.2)
  have f1 : fkR m m1 := ⟨rfl, fun c hc => by show (am_w (am_w m.1 107 9 (zn (X q))) 107 7 (zn (q + 1))) c = _; simp (disch := omega) only [w_ne, w_at, wl_ne, wl_at, wc_ne, wc_at, upd_at, upd_ne, upl_at, upl_ne, cpy_in0, zn_cl, zn_add, zn_mul, zn_sub, zn_pm, br_tt, br_ff, br_ltT, br_ltF, br_leT, br_leF, br_eqT, br_eqF, br_eqs, br_eqm, br_eqm', br_ltm, br_mlt, br_lem, br_mle, br_oiF, br_lgge, br_lgle, br_lggt, br_lglt, br_lgeq, br_zb, br_zb1, bV_s, bI_s, bL_s, zo_n, zo_s], fun i hi => by show (am_w (am_w m.1 107 9 (zn (X q))) 107 7 (zn (q + 1))) 107 i = _; simp (disch := omega) only [w_ne, w_at, wl_ne, wl_at, wc_ne, wc_at, upd_at, upd_ne, upl_at, upl_ne, cpy_in0, zn_cl, zn_add, zn_mul, zn_sub, zn_pm, br_tt, br_ff, br_ltT, br_ltF, br_leT, br_leF, br_eqT, br_eqF, br_eqs, br_eqm, br_eqm', br_ltm, br_mlt, br_lem, br_mle, br_oiF, br_lgge, br_lgle, br_lggt, br_lglt, br_lgeq, br_zb, br_zb1, bV_s, bI_s, bL_s, zo_n, zo_s]⟩
  have m19 : m1.1 107 9 = zn (X q) := by show (am_w (am_w m.1 107 9 (zn (X q))) 107 7 (zn (q + 1))) 107 9 = _; simp (disch := omega) only [w_ne, w_at, wl_ne, wl_at, wc_ne, wc_at, upd_at, upd_ne, upl_at, upl_ne, cpy_in0, zn_cl, zn_add, zn_mul, zn_sub, zn_pm, br_tt, br_ff, br_ltT, br_ltF, br_leT, br_leF, br_eqT, br_eqF, br_eqs, br_eqm, br_eqm', br_ltm, br_mlt, br_lem, br_mle, br_oiF, br_lgge, br_lgle, br_lggt, br_lglt, br_lgeq, br_zb, br_zb1, bV_s, bI_s, bL_s, zo_n, zo_s]
  have m17 : m1.1 107 7 = zn (q + 1) := by show (am_w (am_w m.1 107 9 (zn (X q))) 107 7 (zn (q + 1))) 107 7 = _; simp (disch := omega) only [w_ne, w_at, wl_ne, wl_at, wc_ne, wc_at, upd_at, upd_ne, upl_at, upl_ne, cpy_in0, zn_cl, zn_add, zn_mul, zn_sub, zn_pm, br_tt, br_ff, br_ltT, br_ltF, br_leT, br_leF, br_eqT, br_eqF, br_eqs, br_eqm, br_eqm', br_ltm, br_mlt, br_lem, br_mle, br_oiF, br_lgge, br_lgle, br_lggt, br_lglt, br_lgeq, br_zb, br_zb1, bV_s, bI_s, bL_s, zo_n, zo_s]
  have m1a : m1.1 107 10 = m.1 107 10 := by show (am_w (am_w m.1 107 9 (zn (X q))) 107 7 (zn (q + 1))) 107 10 = _; simp (disch := omega) only [w_ne, w_at, wl_ne, wl_at, wc_ne, wc_at, upd_at, upd_ne, upl_at, upl_ne, cpy_in0, zn_cl, zn_add, zn_mul, zn_sub, zn_pm, br_tt, br_ff, br_ltT, br_ltF, br_leT, br_leF, br_eqT, br_eqF, br_eqs, br_eqm, br_eqm', br_ltm, br_mlt, br_lem, br_mle, br_oiF, br_lgge, br_lgle, br_lggt, br_lglt, br_lgeq, br_zb, br_zb1, bV_s, bI_s, bL_s, zo_n, zo_s]
  have t1 := h.to f1
  -- plain signs
  have plain : ∀ K, sgk X n q = K → sgc K = X q → sgc K ≠ 0 → sgl K = 1 → ∃ m', r_M_signToken_270 d 29999 m1 = some (none, m') ∧ fkR m m' ∧ m'.1 107 7 = zn (q + sgl (sgk X n q)) ∧ m'.1 107 10 = m.1 107 10 ∧ rtk (sgk X n q) 0 (m'.1 107 8) (m'.1 107 9) := by
    intro K e1 e2 e3 e4
    refine ⟨(am_w m1.1 107 8 (zn 4), m1.2), by rw [e_M_signToken_270 d 29998], fkR_tr f1 ⟨rfl, fun c hc => by simp (disch := omega) only [w_ne, w_at, wl_ne, wl_at, wc_ne, wc_at, upd_at, upd_ne, upl_at, upl_ne, cpy_in0, zn_cl, zn_add, zn_mul, zn_sub, zn_pm, br_tt, br_ff, br_ltT, br_ltF, br_leT, br_leF, br_eqT, br_eqF, br_eqs, br_eqm, br_eqm', br_ltm, br_mlt, br_lem, br_mle, br_oiF, br_lgge, br_lgle, br_lggt, br_lglt, br_lgeq, br_zb, br_zb1, bV_s, bI_s, bL_s, zo_n, zo_s], fun i hi => by simp (disch := omega) only [w_ne, w_at, wl_ne, wl_at, wc_ne, wc_at, upd_at, upd_ne, upl_at, upl_ne, cpy_in0, zn_cl, zn_add, zn_mul, zn_sub, zn_pm, br_tt, br_ff, br_ltT, br_ltF, br_leT, br_leF, br_eqT, br_eqF, br_eqs, br_eqm, br_eqm', br_ltm, br_mlt, br_lem, br_mle, br_oiF, br_lgge, br_lgle, br_lggt, br_lglt, br_lgeq, br_zb, br_zb1, bV_s, bI_s, bL_s, zo_n, zo_s]⟩, by rw [e1, e4]; simp (disch := omega) only [w_ne, w_at, wl_ne, wl_at, wc_ne, wc_at, upd_at, upd_ne, upl_at, upl_ne, cpy_in0, zn_cl, zn_add, zn_mul, zn_sub, zn_pm, br_tt, br_ff, br_ltT, br_ltF, br_leT, br_leF, br_eqT, br_eqF, br_eqs, br_eqm, br_eqm', br_ltm, br_mlt, br_lem, br_mle, br_oiF, br_lgge, br_lgle, br_lggt, br_lglt, br_lgeq, br_zb, br_zb1, bV_s, bI_s, bL_s, zo_n, zo_s, m17], by simp (disch := omega) only [w_ne, w_at, wl_ne, wl_at, wc_ne, wc_at, upd_at, upd_ne, upl_at, upl_ne, cpy_in0, zn_cl, zn_add, zn_mul, zn_sub, zn_pm, br_tt, br_ff, br_ltT, br_ltF, br_leT, br_leF, br_eqT, br_eqF, br_eqs, br_eqm, br_eqm', br_ltm, br_mlt, br_lem, br_mle, br_oiF, br_lgge, br_lgle, br_lggt, br_lglt, br_lgeq, br_zb, br_zb1, bV_s, bI_s, bL_s, zo_n, zo_s, m1a], ?_⟩
    rw [e1]
    exact Or.inr (Or.inr (Or.inr (Or.inl ⟨e3, by simp (disch := omega) only [w_ne, w_at, wl_ne, wl_at, wc_ne, wc_at, upd_at, upd_ne, upl_at, upl_ne, cpy_in0, zn_cl, zn_add, zn_mul, zn_sub, zn_pm, br_tt, br_ff, br_ltT, br_ltF, br_leT, br_leF, br_eqT, br_eqF, br_eqs, br_eqm, br_eqm', br_ltm, br_mlt, br_lem, br_mle, br_oiF, br_lgge, br_lgle, br_lggt, br_lglt, br_lgeq, br_zb, br_zb1, bV_s, bI_s, bL_s, zo_n, zo_s], by simp (disch := omega) only [w_ne, w_at, wl_ne, wl_at, wc_ne, wc_at, upd_at, upd_ne, upl_at, upl_ne, cpy_in0, zn_cl, zn_add, zn_mul, zn_sub, zn_pm, br_tt, br_ff, br_ltT, br_ltF, br_leT, br_leF, br_eqT, br_eqF, br_eqs, br_eqm, br_eqm', br_ltm, br_mlt, br_lem, br_mle, br_oiF, br_lgge, br_lgle, br_lggt, br_lglt, br_lgeq, br_zb, br_zb1, bV_s, bI_s, bL_s, zo_n, zo_s, m19]; rw [e2]⟩)))
  -- comparisons
  have fin : ∀ (f k x2 x3 : Nat) (x1 : Int32) (m2 : am_M), m2.2 = m.2 → (∀ c, c ≠ 107 → m2.1 c = m.1 c) → (∀ i, i < 7 ∨ 10 < i → m2.1 107 i = m.1 107 i) → m2.1 107 10 = m.1 107 10 → m2.1 107 9 = zn (X q) → m2.1 107 7 = zn (q + sgl (30 + k)) → sgk X n q = 30 + k → k ≤ 5 → x2 ≤ 1 → x3 ≤ 1 → ((X q = 61 ∧ k = 2) ∨ (X q = 60 ∧ k = (if x2 = 0 then (if x3 = 0 then 0 else 3) else 1)) ∨ (X q = 62 ∧ k = (if x2 = 0 then 5 else 4))) →
      ∃ m', r_M_signToken_135 d (f + 1) x1 (zn x2) (zn x3) m2 = some (none, m') ∧ fkR m m' ∧ m'.1 107 7 = zn (q + sgl (sgk X n q)) ∧ m'.1 107 10 = m.1 107 10 ∧ rtk (sgk X n q) 0 (m'.1 107 8) (m'.1 107 9) := by
    intro f k x2 x3 x1 m2 g1 g2 g3 g4 g5 g6 g7 g8 g9 g10 hc
    have ok : ∃ m', r_M_signToken_135 d (f + 1) x1 (zn x2) (zn x3) m2 = some (none, m') ∧ m' = (am_w (am_w m2.1 107 8 (zn 5)) 107 9 (zn k), m2.2) := by
      refine ⟨_, ?_, rfl⟩
      rw [e_M_signToken_135, g5]
      rcases hc with ⟨c1, c2⟩ | ⟨c1, c2⟩ | ⟨c1, c2⟩
      · rw [br_eqT c1, c2]
      · rw [br_eqF (by omega) (by omega) (by omega), br_eqT c1]
        by_cases e2 : x2 = 0
        · rw [if_pos e2] at c2
          rw [br_eqT e2]
          by_cases e3 : x3 = 0
          · rw [if_pos e3] at c2; rw [br_eqT e3, c2]
          · rw [if_neg e3] at c2; rw [br_eqF e3 (by omega) (by omega), c2]
        · rw [if_neg e2] at c2; rw [br_eqF e2 (by omega) (by omega), c2]
      · rw [br_eqF (by omega) (by omega) (by omega), br_eqF (by omega) (by omega) (by omega)]
        by_cases e2 : x2 = 0
        · rw [if_pos e2] at c2; rw [br_eqT e2, c2]
        · rw [if_neg e2] at c2; rw [br_eqF e2 (by omega) (by omega), c2]
    obtain ⟨m', o1, o2⟩ := ok
    refine ⟨m', o1, ?_, ?_, ?_, ?_⟩
    · rw [o2]; exact ⟨g1, fun c hc => by simp (disch := omega) only [w_ne, w_at, wl_ne, wl_at, wc_ne, wc_at, upd_at, upd_ne, upl_at, upl_ne, cpy_in0, zn_cl, zn_add, zn_mul, zn_sub, zn_pm, br_tt, br_ff, br_ltT, br_ltF, br_leT, br_leF, br_eqT, br_eqF, br_eqs, br_eqm, br_eqm', br_ltm, br_mlt, br_lem, br_mle, br_oiF, br_lgge, br_lgle, br_lggt, br_lglt, br_lgeq, br_zb, br_zb1, bV_s, bI_s, bL_s, zo_n, zo_s]; exact g2 c hc, fun i hi => by simp (disch := omega) only [w_ne, w_at, wl_ne, wl_at, wc_ne, wc_at, upd_at, upd_ne, upl_at, upl_ne, cpy_in0, zn_cl, zn_add, zn_mul, zn_sub, zn_pm, br_tt, br_ff, br_ltT, br_ltF, br_leT, br_leF, br_eqT, br_eqF, br_eqs, br_eqm, br_eqm', br_ltm, br_mlt, br_lem, br_mle, br_oiF, br_lgge, br_lgle, br_lggt, br_lglt, br_lgeq, br_zb, br_zb1, bV_s, bI_s, bL_s, zo_n, zo_s]; exact g3 i hi⟩
    · rw [o2, g7]; simp (disch := omega) only [w_ne, w_at, wl_ne, wl_at, wc_ne, wc_at, upd_at, upd_ne, upl_at, upl_ne, cpy_in0, zn_cl, zn_add, zn_mul, zn_sub, zn_pm, br_tt, br_ff, br_ltT, br_ltF, br_leT, br_leF, br_eqT, br_eqF, br_eqs, br_eqm, br_eqm', br_ltm, br_mlt, br_lem, br_mle, br_oiF, br_lgge, br_lgle, br_lggt, br_lglt, br_lgeq, br_zb, br_zb1, bV_s, bI_s, bL_s, zo_n, zo_s]; exact g6
    · rw [o2]; simp (disch := omega) only [w_ne, w_at, wl_ne, wl_at, wc_ne, wc_at, upd_at, upd_ne, upl_at, upl_ne, cpy_in0, zn_cl, zn_add, zn_mul, zn_sub, zn_pm, br_tt, br_ff, br_ltT, br_ltF, br_leT, br_leF, br_eqT, br_eqF, br_eqs, br_eqm, br_eqm', br_ltm, br_mlt, br_lem, br_mle, br_oiF, br_lgge, br_lgle, br_lggt, br_lglt, br_lgeq, br_zb, br_zb1, bV_s, bI_s, bL_s, zo_n, zo_s]; exact g4
    · rw [o2, g7]
      exact Or.inr (Or.inr (Or.inr (Or.inr (Or.inl ⟨by omega, by omega, by simp (disch := omega) only [w_ne, w_at, wl_ne, wl_at, wc_ne, wc_at, upd_at, upd_ne, upl_at, upl_ne, cpy_in0, zn_cl, zn_add, zn_mul, zn_sub, zn_pm, br_tt, br_ff, br_ltT, br_ltF, br_leT, br_leF, br_eqT, br_eqF, br_eqs, br_eqm, br_eqm', br_ltm, br_mlt, br_lem, br_mle, br_oiF, br_lgge, br_lgle, br_lggt, br_lglt, br_lgeq, br_zb, br_zb1, bV_s, bI_s, bL_s, zo_n, zo_s], by simp (disch := omega) only [w_ne, w_at, wl_ne, wl_at, wc_ne, wc_at, upd_at, upd_ne, upl_at, upl_ne, cpy_in0, zn_cl, zn_add, zn_mul, zn_sub, zn_pm, br_tt, br_ff, br_ltT, br_ltF, br_leT, br_leF, br_eqT, br_eqF, br_eqs, br_eqm, br_eqm', br_ltm, br_mlt, br_lem, br_mle, br_oiF, br_lgge, br_lgle, br_lggt, br_lglt, br_lgeq, br_zb, br_zb1, bV_s, bI_s, bL_s, zo_n, zo_s]; rw [Nat.add_sub_cancel_left]⟩))))
  have f1b := f1.2.1; have f1c := f1.2.2
  -- with the next place
  let m3 : am_M := (am_w m1.1 107 7 (zn (q + 2)), m1.2)
  have m37 : m3.1 107 7 = zn (q + 2) := by show (am_w m1.1 107 7 (zn (q + 2))) 107 7 = _; simp (disch := omega) only [w_ne, w_at, wl_ne, wl_at, wc_ne, wc_at, upd_at, upd_ne, upl_at, upl_ne, cpy_in0, zn_cl, zn_add, zn_mul, zn_sub, zn_pm, br_tt, br_ff, br_ltT, br_ltF, br_leT, br_leF, br_eqT, br_eqF, br_eqs, br_eqm, br_eqm', br_ltm, br_mlt, br_lem, br_mle, br_oiF, br_lgge, br_lgle, br_lggt, br_lglt, br_lgeq, br_zb, br_zb1, bV_s, bI_s, bL_s, zo_n, zo_s]
  have m39 : m3.1 107 9 = zn (X q) := by show (am_w m1.1 107 7 (zn (q + 2))) 107 9 = _; simp (disch := omega) only [w_ne, w_at, wl_ne, wl_at, wc_ne, wc_at, upd_at, upd_ne, upl_at, upl_ne, cpy_in0, zn_cl, zn_add, zn_mul, zn_sub, zn_pm, br_tt, br_ff, br_ltT, br_ltF, br_leT, br_leF, br_eqT, br_eqF, br_eqs, br_eqm, br_eqm', br_ltm, br_mlt, br_lem, br_mle, br_oiF, br_lgge, br_lgle, br_lggt, br_lglt, br_lgeq, br_zb, br_zb1, bV_s, bI_s, bL_s, zo_n, zo_s, m19]
  have m3a : m3.1 107 10 = m.1 107 10 := by show (am_w m1.1 107 7 (zn (q + 2))) 107 10 = _; simp (disch := omega) only [w_ne, w_at, wl_ne, wl_at, wc_ne, wc_at, upd_at, upd_ne, upl_at, upl_ne, cpy_in0, zn_cl, zn_add, zn_mul, zn_sub, zn_pm, br_tt, br_ff, br_ltT, br_ltF, br_leT, br_leF, br_eqT, br_eqF, br_eqs, br_eqm, br_eqm', br_ltm, br_mlt, br_lem, br_mle, br_oiF, br_lgge, br_lgle, br_lggt, br_lglt, br_lgeq, br_zb, br_zb1, bV_s, bI_s, bL_s, zo_n, zo_s, m1a]
  have m3b : ∀ c, c ≠ 107 → m3.1 c = m.1 c := fun c hc => by show (am_w m1.1 107 7 (zn (q + 2))) c = _; simp (disch := omega) only [w_ne, w_at, wl_ne, wl_at, wc_ne, wc_at, upd_at, upd_ne, upl_at, upl_ne, cpy_in0, zn_cl, zn_add, zn_mul, zn_sub, zn_pm, br_tt, br_ff, br_ltT, br_ltF, br_leT, br_leF, br_eqT, br_eqF, br_eqs, br_eqm, br_eqm', br_ltm, br_mlt, br_lem, br_mle, br_oiF, br_lgge, br_lgle, br_lggt, br_lglt, br_lgeq, br_zb, br_zb1, bV_s, bI_s, bL_s, zo_n, zo_s]; exact f1b c hc
  have m3c : ∀ i, i < 7 ∨ 10 < i → m3.1 107 i = m.1 107 i := fun i hi => by show (am_w m1.1 107 7 (zn (q + 2))) 107 i = _; simp (disch := omega) only [w_ne, w_at, wl_ne, wl_at, wc_ne, wc_at, upd_at, upd_ne, upl_at, upl_ne, cpy_in0, zn_cl, zn_add, zn_mul, zn_sub, zn_pm, br_tt, br_ff, br_ltT, br_ltF, br_leT, br_leF, br_eqT, br_eqF, br_eqs, br_eqm, br_eqm', br_ltm, br_mlt, br_lem, br_mle, br_oiF, br_lgge, br_lgle, br_lggt, br_lglt, br_lgeq, br_zb, br_zb1, bV_s, bI_s, bL_s, zo_n, zo_s]; exact f1c i hi
  have e125 : ∀ (f : Nat) (x1 x2 x3 : Int32), r_M_signToken_125 d (f + 1) x1 x2 x3 m1 = r_M_signToken_135 d f x1 x2 x3 m3 := by
    intro f x1 x2 x3
    rw [e_M_signToken_125, m17, zn_add]
  have e50 : ∀ f : Nat, r_M_signToken_50 d (f + 1) m1 = if X q ≠ 61 ∧ nxt1 X n q = 61 then r_M_signToken_115 d f (zn (nxt1 X n q)) (zn 1) m1 else r_M_signToken_94 d f (zn (nxt1 X n q)) m1 := by
    intro f
    rw [e_M_signToken_50, t1.l, m17, m19]
    unfold nxt1
    by_cases g : q + 1 < n
    · have hx1 := h.x (q + 1) g
      rw [br_leF g (by omega), br_oiF (by omega) (by omega), zn_cl (by omega), t1.b _ g, if_pos g]
      by_cases c61 : X q = 61
      · rw [br_eqT c61, if_neg (fun e => e.1 c61)]
      · rw [br_eqF c61 (by omega) (by omega)]
        by_cases y61 : X (q + 1) = 61
        · rw [br_eqT y61, if_pos ⟨c61, y61⟩]
          by_cases c60 : X q = 60
          · rw [br_eqT c60, br_eqF (by omega) (by omega) (by omega)]
          · rw [br_eqF c60 (by omega) (by omega)]
        · rw [br_eqF y61 (by omega) (by omega), if_neg (fun e => y61 e.2)]
    · rw [br_leT (by omega) (by omega), if_neg g, if_neg (fun e => by omega)]
      by_cases c61 : X q = 61
      · rw [br_eqT c61]
      · rw [br_eqF c61 (by omega) (by omega)]
  have y256 : nxt1 X n q < 256 := by
    unfold nxt1
    by_cases g : q + 1 < n
    · rw [if_pos g]; exact h.x _ g
    · rw [if_neg g]; omega
  rw [n_M_signToken, h7, br_oiF (by omega) (by omega), zn_cl (by omega), h.b q hq, zn_add]
  have goal1 : ∀ R : am_R, R = R := fun _ => rfl
  by_cases c60 : X q = 60
  · have e : sgk X n q = (if nxt1 X n q = 61 then 31 else if nxt1 X n q = 62 then 33 else 30) := by unfold sgk; rw [c60]; rfl
    rw [br_eqT c60]
    have e50' := e50 29998
    show ∃ m', r_M_signToken_50 d 29999 m1 = some (none, m') ∧ _
    rw [e50']
    by_cases g : nxt1 X n q = 61
    · rw [if_pos g] at e
      rw [if_pos ⟨by omega, g⟩, e_M_signToken_115 d 29997, br_eqF (by omega) (by omega) (by omega), e125 29996]
      exact fin 29995 1 1 0 _ m3 rfl m3b m3c m3a m39 (by rw [m37]; rfl) (by rw [e]) (by omega) (by omega) (by omega) (Or.inr (Or.inl ⟨c60, rfl⟩))
    · rw [if_neg g] at e
      rw [if_neg (fun q => g q.2), e_M_signToken_94 d 29997, m19, br_eqT c60]
      by_cases g2 : nxt1 X n q = 62
      · rw [if_pos g2] at e
        rw [br_eqT g2, e125 29996]
        exact fin 29995 3 0 1 _ m3 rfl m3b m3c m3a m39 (by rw [m37]; rfl) (by rw [e]) (by omega) (by omega) (by omega) (Or.inr (Or.inl ⟨c60, rfl⟩))
      · rw [if_neg g2] at e
        rw [br_eqF g2 (by omega) (by omega), e_M_signToken_115 d 29996, br_eqT rfl]
        exact fin 29995 0 0 0 _ m1 rfl f1b f1c m1a m19 (by rw [m17]; rfl) (by rw [e]) (by omega) (by omega) (by omega) (Or.inr (Or.inl ⟨c60, rfl⟩))
  rw [br_eqF c60 (by omega) (by omega)]
  by_cases c62 : X q = 62
  · have e : sgk X n q = (if nxt1 X n q = 61 then 34 else 35) := by unfold sgk; rw [c62]; rfl
    rw [br_eqT c62]
    have e50' := e50 29998
    show ∃ m', r_M_signToken_50 d 29999 m1 = some (none, m') ∧ _
    rw [e50']
    by_cases g : nxt1 X n q = 61
    · rw [if_pos g] at e
      rw [if_pos ⟨by omega, g⟩, e_M_signToken_115 d 29997, br_eqF (by omega) (by omega) (by omega), e125 29996]
      exact fin 29995 4 1 0 _ m3 rfl m3b m3c m3a m39 (by rw [m37]; rfl) (by rw [e]) (by omega) (by omega) (by omega) (Or.inr (Or.inr ⟨c62, rfl⟩))
    · rw [if_neg g] at e
      rw [if_neg (fun q => g q.2), e_M_signToken_94 d 29997, m19, br_eqF c60 (by omega) (by omega), e_M_signToken_115 d 29996, br_eqT rfl]
      exact fin 29995 5 0 0 _ m1 rfl f1b f1c m1a m19 (by rw [m17]; rfl) (by rw [e]) (by omega) (by omega) (by omega) (Or.inr (Or.inr ⟨c62, rfl⟩))
  rw [br_eqF c62 (by omega) (by omega)]
  by_cases c61 : X q = 61
  · have e : sgk X n q = 32 := by unfold sgk; rw [c61]; rfl
    rw [br_eqT c61]
    have e50' := e50 29998
    show ∃ m', r_M_signToken_50 d 29999 m1 = some (none, m') ∧ _
    rw [e50', if_neg (fun q => q.1 c61), e_M_signToken_94 d 29997, m19, br_eqF c60 (by omega) (by omega), e_M_signToken_115 d 29996, br_eqT rfl]
    exact fin 29995 2 0 0 _ m1 rfl f1b f1c m1a m19 (by rw [m17]; rfl) (by rw [e]) (by omega) (by omega) (by omega) (Or.inl ⟨c61, rfl⟩)
  rw [br_eqF c61 (by omega) (by omega)]
  by_cases c59 : X q = 59
  · have e : sgk X n q = 27 := by unfold sgk; rw [c59]; rfl
    rw [br_eqT c59]
    exact plain 27 e (by rw [c59]; rfl) (by decide) (by decide)
  rw [br_eqF c59 (by omega) (by omega)]
  by_cases c40 : X q = 40
  · have e : sgk X n q = 28 := by unfold sgk; rw [c40]; rfl
    rw [br_eqT c40]
    exact plain 28 e (by rw [c40]; rfl) (by decide) (by decide)
  rw [br_eqF c40 (by omega) (by omega)]
  by_cases c41 : X q = 41
  · have e : sgk X n q = 29 := by unfold sgk; rw [c41]; rfl
    rw [br_eqT c41]
    exact plain 29 e (by rw [c41]; rfl) (by decide) (by decide)
  rw [br_eqF c41 (by omega) (by omega)]
  by_cases c43 : X q = 43
  · have e : sgk X n q = 36 := by unfold sgk; rw [c43]; rfl
    rw [br_eqT c43]
    exact plain 36 e (by rw [c43]; rfl) (by decide) (by decide)
  rw [br_eqF c43 (by omega) (by omega)]
  by_cases c45 : X q = 45
  · have e : sgk X n q = 37 := by unfold sgk; rw [c45]; rfl
    rw [br_eqT c45]
    exact plain 37 e (by rw [c45]; rfl) (by decide) (by decide)
  rw [br_eqF c45 (by omega) (by omega)]
  by_cases c42 : X q = 42
  · have e : sgk X n q = 38 := by unfold sgk; rw [c42]; rfl
    rw [br_eqT c42]
    exact plain 38 e (by rw [c42]; rfl) (by decide) (by decide)
  rw [br_eqF c42 (by omega) (by omega)]
  by_cases c47 : X q = 47
  · have e : sgk X n q = 39 := by unfold sgk; rw [c47]; rfl
    rw [br_eqT c47]
    exact plain 39 e (by rw [c47]; rfl) (by decide) (by decide)
  rw [br_eqF c47 (by omega) (by omega)]
  by_cases c37 : X q = 37
  · have e : sgk X n q = 41 := by unfold sgk; rw [c37]; rfl
    rw [br_eqT c37]
    show ∃ m', r_M_signToken_270 d 29999 m1 = some (none, m') ∧ _
    refine ⟨(am_w m1.1 107 8 (zn 4), m1.2), by rw [e_M_signToken_270 d 29998], fkR_tr f1 ⟨rfl, fun c hc => by simp (disch := omega) only [w_ne, w_at, wl_ne, wl_at, wc_ne, wc_at, upd_at, upd_ne, upl_at, upl_ne, cpy_in0, zn_cl, zn_add, zn_mul, zn_sub, zn_pm, br_tt, br_ff, br_ltT, br_ltF, br_leT, br_leF, br_eqT, br_eqF, br_eqs, br_eqm, br_eqm', br_ltm, br_mlt, br_lem, br_mle, br_oiF, br_lgge, br_lgle, br_lggt, br_lglt, br_lgeq, br_zb, br_zb1, bV_s, bI_s, bL_s, zo_n, zo_s], fun i hi => by simp (disch := omega) only [w_ne, w_at, wl_ne, wl_at, wc_ne, wc_at, upd_at, upd_ne, upl_at, upl_ne, cpy_in0, zn_cl, zn_add, zn_mul, zn_sub, zn_pm, br_tt, br_ff, br_ltT, br_ltF, br_leT, br_leF, br_eqT, br_eqF, br_eqs, br_eqm, br_eqm', br_ltm, br_mlt, br_lem, br_mle, br_oiF, br_lgge, br_lgle, br_lggt, br_lglt, br_lgeq, br_zb, br_zb1, bV_s, bI_s, bL_s, zo_n, zo_s]⟩, by rw [e]; simp (disch := omega) only [w_ne, w_at, wl_ne, wl_at, wc_ne, wc_at, upd_at, upd_ne, upl_at, upl_ne, cpy_in0, zn_cl, zn_add, zn_mul, zn_sub, zn_pm, br_tt, br_ff, br_ltT, br_ltF, br_leT, br_leF, br_eqT, br_eqF, br_eqs, br_eqm, br_eqm', br_ltm, br_mlt, br_lem, br_mle, br_oiF, br_lgge, br_lgle, br_lggt, br_lglt, br_lgeq, br_zb, br_zb1, bV_s, bI_s, bL_s, zo_n, zo_s, m17]; rfl, by simp (disch := omega) only [w_ne, w_at, wl_ne, wl_at, wc_ne, wc_at, upd_at, upd_ne, upl_at, upl_ne, cpy_in0, zn_cl, zn_add, zn_mul, zn_sub, zn_pm, br_tt, br_ff, br_ltT, br_ltF, br_leT, br_leF, br_eqT, br_eqF, br_eqs, br_eqm, br_eqm', br_ltm, br_mlt, br_lem, br_mle, br_oiF, br_lgge, br_lgle, br_lggt, br_lglt, br_lgeq, br_zb, br_zb1, bV_s, bI_s, bL_s, zo_n, zo_s, m1a], ?_⟩
    rw [e]
    exact Or.inr (Or.inr (Or.inr (Or.inr (Or.inr (Or.inr ⟨rfl, Or.inr ⟨by simp (disch := omega) only [w_ne, w_at, wl_ne, wl_at, wc_ne, wc_at, upd_at, upd_ne, upl_at, upl_ne, cpy_in0, zn_cl, zn_add, zn_mul, zn_sub, zn_pm, br_tt, br_ff, br_ltT, br_ltF, br_leT, br_leF, br_eqT, br_eqF, br_eqs, br_eqm, br_eqm', br_ltm, br_mlt, br_lem, br_mle, br_oiF, br_lgge, br_lgle, br_lggt, br_lglt, br_lgeq, br_zb, br_zb1, bV_s, bI_s, bL_s, zo_n, zo_s], by simp (disch := omega) only [w_ne, w_at, wl_ne, wl_at, wc_ne, wc_at, upd_at, upd_ne, upl_at, upl_ne, cpy_in0, zn_cl, zn_add, zn_mul, zn_sub, zn_pm, br_tt, br_ff, br_ltT, br_ltF, br_leT, br_leF, br_eqT, br_eqF, br_eqs, br_eqm, br_eqm', br_ltm, br_mlt, br_lem, br_mle, br_oiF, br_lgge, br_lgle, br_lggt, br_lglt, br_lgeq, br_zb, br_zb1, bV_s, bI_s, bL_s, zo_n, zo_s, m19]; rw [c37]⟩⟩)))))
  rw [br_eqF c37 (by omega) (by omega)]
  have e : sgk X n q = 41 := by
    unfold sgk
    rw [if_neg c40, if_neg c41, if_neg c42, if_neg c43, if_neg c45, if_neg c47, if_neg c59, if_neg c60, if_neg c61, if_neg c62]
  refine ⟨_, rfl, ⟨rfl, fun c hc => by simp (disch := omega) only [w_ne, w_at, wl_ne, wl_at, wc_ne, wc_at, upd_at, upd_ne, upl_at, upl_ne, cpy_in0, zn_cl, zn_add, zn_mul, zn_sub, zn_pm, br_tt, br_ff, br_ltT, br_ltF, br_leT, br_leF, br_eqT, br_eqF, br_eqs, br_eqm, br_eqm', br_ltm, br_mlt, br_lem, br_mle, br_oiF, br_lgge, br_lgle, br_lggt, br_lglt, br_lgeq, br_zb, br_zb1, bV_s, bI_s, bL_s, zo_n, zo_s], fun i hi => by simp (disch := omega) only [w_ne, w_at, wl_ne, wl_at, wc_ne, wc_at, upd_at, upd_ne, upl_at, upl_ne, cpy_in0, zn_cl, zn_add, zn_mul, zn_sub, zn_pm, br_tt, br_ff, br_ltT, br_ltF, br_leT, br_leF, br_eqT, br_eqF, br_eqs, br_eqm, br_eqm', br_ltm, br_mlt, br_lem, br_mle, br_oiF, br_lgge, br_lgle, br_lggt, br_lglt, br_lgeq, br_zb, br_zb1, bV_s, bI_s, bL_s, zo_n, zo_s]⟩, by rw [e]; simp (disch := omega) only [w_ne, w_at, wl_ne, wl_at, wc_ne, wc_at, upd_at, upd_ne, upl_at, upl_ne, cpy_in0, zn_cl, zn_add, zn_mul, zn_sub, zn_pm, br_tt, br_ff, br_ltT, br_ltF, br_leT, br_leF, br_eqT, br_eqF, br_eqs, br_eqm, br_eqm', br_ltm, br_mlt, br_lem, br_mle, br_oiF, br_lgge, br_lgle, br_lggt, br_lglt, br_lgeq, br_zb, br_zb1, bV_s, bI_s, bL_s, zo_n, zo_s]; rfl, by simp (disch := omega) only [w_ne, w_at, wl_ne, wl_at, wc_ne, wc_at, upd_at, upd_ne, upl_at, upl_ne, cpy_in0, zn_cl, zn_add, zn_mul, zn_sub, zn_pm, br_tt, br_ff, br_ltT, br_ltF, br_leT, br_leF, br_eqT, br_eqF, br_eqs, br_eqm, br_eqm', br_ltm, br_mlt, br_lem, br_mle, br_oiF, br_lgge, br_lgle, br_lggt, br_lglt, br_lgeq, br_zb, br_zb1, bV_s, bI_s, bL_s, zo_n, zo_s], ?_⟩
  rw [e]
  exact Or.inr (Or.inr (Or.inr (Or.inr (Or.inr (Or.inr ⟨rfl, Or.inl (by simp (disch := omega) only [w_ne, w_at, wl_ne, wl_at, wc_ne, wc_at, upd_at, upd_ne, upl_at, upl_ne, cpy_in0, zn_cl, zn_add, zn_mul, zn_sub, zn_pm, br_tt, br_ff, br_ltT, br_ltF, br_leT, br_leF, br_eqT, br_eqF, br_eqs, br_eqm, br_eqm', br_ltm, br_mlt, br_lem, br_mle, br_oiF, br_lgge, br_lgle, br_lggt, br_lglt, br_lgeq, br_zb, br_zb1, bV_s, bI_s, bL_s, zo_n, zo_s])⟩)))))
/-- the reference's next token -/
theorem s_token {X : Nat → Nat} {n p d : Nat} {m : am_M} (h : tR2 X n m) (hp : p ≤ n) (h3 : m.1 107 7 = zn p) : ∃ m', am_c (d + 2) y_M_token [.ref 107] m = some (none, m') ∧ kR (tok X n p) m' ∧ fkR m m' := by
  have h7 := h.n
  obtain ⟨f', m1, a1, a0, a2, a3, a4, a5⟩ := lq_skip (d := d + 1) (n - p) p 30000 m (by omega) (by omega) h h3
  have f1 : fkR m m1 := ⟨a2, a3, fun i hi => a4 i (by omega)⟩
  have t1 := h.to f1
  have hq := rn_le (P := fun j => blk (X j)) (n - p) p
  have a5' : m1.1 107 7 = zn (tkq X n p) := a5
  have hqn : tkq X n p ≤ n := by unfold tkq; omega
  rw [n_M_token, a1]
  unfold tok
  by_cases g : n ≤ tkq X n p
  · rw [if_pos g, e_M_token_0, t1.l, a5', br_leT g (by omega), br_eqT (by omega)]
    exact ⟨_, rfl, ⟨by simp (disch := omega) only [w_ne, w_at, wl_ne, wl_at, wc_ne, wc_at, upd_at, upd_ne, upl_at, upl_ne, cpy_in0, zn_cl, zn_add, zn_mul, zn_sub, zn_pm, br_tt, br_ff, br_ltT, br_ltF, br_leT, br_leF, br_eqT, br_eqF, br_eqs, br_eqm, br_eqm', br_ltm, br_mlt, br_lem, br_mle, br_oiF, br_lgge, br_lgle, br_lggt, br_lglt, br_lgeq, br_zb, br_zb1, bV_s, bI_s, bL_s, zo_n, zo_s, a5'], by simp (disch := omega) only [w_ne, w_at, wl_ne, wl_at, wc_ne, wc_at, upd_at, upd_ne, upl_at, upl_ne, cpy_in0, zn_cl, zn_add, zn_mul, zn_sub, zn_pm, br_tt, br_ff, br_ltT, br_ltF, br_leT, br_leF, br_eqT, br_eqF, br_eqs, br_eqm, br_eqm', br_ltm, br_mlt, br_lem, br_mle, br_oiF, br_lgge, br_lgle, br_lggt, br_lglt, br_lgeq, br_zb, br_zb1, bV_s, bI_s, bL_s, zo_n, zo_s], Or.inr (Or.inr (Or.inr (Or.inr (Or.inr (Or.inl ⟨rfl, by simp (disch := omega) only [w_ne, w_at, wl_ne, wl_at, wc_ne, wc_at, upd_at, upd_ne, upl_at, upl_ne, cpy_in0, zn_cl, zn_add, zn_mul, zn_sub, zn_pm, br_tt, br_ff, br_ltT, br_ltF, br_leT, br_leF, br_eqT, br_eqF, br_eqs, br_eqm, br_eqm', br_ltm, br_mlt, br_lem, br_mle, br_oiF, br_lgge, br_lgle, br_lggt, br_lglt, br_lgeq, br_zb, br_zb1, bV_s, bI_s, bL_s, zo_n, zo_s]⟩)))))⟩, fkR_tr f1 ⟨rfl, fun c hc => by simp (disch := omega) only [w_ne, w_at, wl_ne, wl_at, wc_ne, wc_at, upd_at, upd_ne, upl_at, upl_ne, cpy_in0, zn_cl, zn_add, zn_mul, zn_sub, zn_pm, br_tt, br_ff, br_ltT, br_ltF, br_leT, br_leF, br_eqT, br_eqF, br_eqs, br_eqm, br_eqm', br_ltm, br_mlt, br_lem, br_mle, br_oiF, br_lgge, br_lgle, br_lggt, br_lglt, br_lgeq, br_zb, br_zb1, bV_s, bI_s, bL_s, zo_n, zo_s], fun i hi => by simp (disch := omega) only [w_ne, w_at, wl_ne, wl_at, wc_ne, wc_at, upd_at, upd_ne, upl_at, upl_ne, cpy_in0, zn_cl, zn_add, zn_mul, zn_sub, zn_pm, br_tt, br_ff, br_ltT, br_ltF, br_leT, br_leF, br_eqT, br_eqF, br_eqs, br_eqm, br_eqm', br_ltm, br_mlt, br_lem, br_mle, br_oiF, br_lgge, br_lgle, br_lggt, br_lglt, br_lgeq, br_zb, br_zb1, bV_s, bI_s, bL_s, zo_n, zo_s]⟩⟩
  · rw [if_neg g]
    have hlt : tkq X n p < n := by omega
    have hx := h.x _ hlt
    have hb : blk (X (tkq X n p)) = false := rn_st (P := fun j => blk (X j)) (n - p) p (by show tkq X n p < _; omega)
    unfold blk at hb
    rw [decide_eq_false_iff_not] at hb
    let m2 : am_M := (am_w m1.1 107 10 (zn (tkq X n p)), m1.2)
    have f2 : fkR m1 m2 := ⟨rfl, fun c hc => by show (am_w m1.1 107 10 (zn (tkq X n p))) c = _; simp (disch := omega) only [w_ne, w_at, wl_ne, wl_at, wc_ne, wc_at, upd_at, upd_ne, upl_at, upl_ne, cpy_in0, zn_cl, zn_add, zn_mul, zn_sub, zn_pm, br_tt, br_ff, br_ltT, br_ltF, br_leT, br_leF, br_eqT, br_eqF, br_eqs, br_eqm, br_eqm', br_ltm, br_mlt, br_lem, br_mle, br_oiF, br_lgge, br_lgle, br_lggt, br_lglt, br_lgeq, br_zb, br_zb1, bV_s, bI_s, bL_s, zo_n, zo_s], fun i hi => by show (am_w m1.1 107 10 (zn (tkq X n p))) 107 i = _; simp (disch := omega) only [w_ne, w_at, wl_ne, wl_at, wc_ne, wc_at, upd_at, upd_ne, upl_at, upl_ne, cpy_in0, zn_cl, zn_add, zn_mul, zn_sub, zn_pm, br_tt, br_ff, br_ltT, br_ltF, br_leT, br_leF, br_eqT, br_eqF, br_eqs, br_eqm, br_eqm', br_ltm, br_mlt, br_lem, br_mle, br_oiF, br_lgge, br_lgle, br_lggt, br_lglt, br_lgeq, br_zb, br_zb1, bV_s, bI_s, bL_s, zo_n, zo_s]⟩
    have t2 := t1.to f2
    have m23 : m2.1 107 7 = zn (tkq X n p) := by show (am_w m1.1 107 10 (zn (tkq X n p))) 107 7 = _; simp (disch := omega) only [w_ne, w_at, wl_ne, wl_at, wc_ne, wc_at, upd_at, upd_ne, upl_at, upl_ne, cpy_in0, zn_cl, zn_add, zn_mul, zn_sub, zn_pm, br_tt, br_ff, br_ltT, br_ltF, br_leT, br_leF, br_eqT, br_eqF, br_eqs, br_eqm, br_eqm', br_ltm, br_mlt, br_lem, br_mle, br_oiF, br_lgge, br_lgle, br_lggt, br_lglt, br_lgeq, br_zb, br_zb1, bV_s, bI_s, bL_s, zo_n, zo_s, a5']
    have m25 : m2.1 107 10 = zn (tkq X n p) := by show (am_w m1.1 107 10 (zn (tkq X n p))) 107 10 = _; simp (disch := omega) only [w_ne, w_at, wl_ne, wl_at, wc_ne, wc_at, upd_at, upd_ne, upl_at, upl_ne, cpy_in0, zn_cl, zn_add, zn_mul, zn_sub, zn_pm, br_tt, br_ff, br_ltT, br_ltF, br_leT, br_leF, br_eqT, br_eqF, br_eqs, br_eqm, br_eqm', br_ltm, br_mlt, br_lem, br_mle, br_oiF, br_lgge, br_lgle, br_lggt, br_lglt, br_lgeq, br_zb, br_zb1, bV_s, bI_s, bL_s, zo_n, zo_s]
    have i1 : am_c (d + 1) y_M_isSmall [.ref 107, .int (zn (tkq X n p))] (am_w m1.1 107 10 (zn (tkq X n p)), m1.2) = some (some (.int (zb (ltr (X (tkq X n p))))), m2) := s_sm t2 hlt
    have i2 : am_c (d + 1) y_M_isDigit [.ref 107, .int (zn (tkq X n p))] m2 = some (some (.int (zb (dgi (X (tkq X n p))))), m2) := s_dr t2 hlt
    rw [e_M_token_0, t1.l, a5', br_leF hlt (by omega), br_oiF (by omega) (by omega), br_oiF (by omega) (by omega), zn_cl (by omega), t1.b _ hlt, br_eqF (fun e => hb (Or.inl e)) (by omega) (by omega), br_eqF (fun e => hb (Or.inr e)) (by omega) (by omega), br_eqF (show tkq X n p ≠ n by omega) (by omega) (by omega), i1, bI_s, br_zb]
    by_cases gl : ltr (X (tkq X n p)) = true
    · rw [if_pos gl, if_pos gl]
      obtain ⟨f4, m4, b1, b2, b3, b4, b5⟩ := lq_90 (d := d) (n - tkq X n p) (tkq X n p) f' m2 (by omega) (by omega) t2 m23
      have f4' : fkR m2 m4 := ⟨b2, b3, fun i hi => b4 i (by omega)⟩
      have t4 := t2.to f4'
      have b5' : m4.1 107 7 = zn (tkw X n (tkq X n p)) := b5
      have b6' : m4.1 107 10 = zn (tkq X n p) := by rw [b4 10 (by omega)]; exact m25
      have hwl := rn_le (P := fun j => ltr (X j)) (n - tkq X n p) (tkq X n p)
      have hwl1 : tkq X n p ≤ tkw X n (tkq X n p) := hwl.1
      have hwl2 : tkw X n (tkq X n p) ≤ n := by have : tkw X n (tkq X n p) ≤ tkq X n p + (n - tkq X n p) := hwl.2; omega
      have hal : ∀ j, j < tkw X n (tkq X n p) - tkq X n p → ltr (X (tkq X n p + j)) = true := fun j hj => rn_al (P := fun j => ltr (X j)) (n - tkq X n p) (tkq X n p) (tkq X n p + j) (by omega) (by show _ < tkw X n (tkq X n p); omega)
      have stp : am_c (d + 1) y_M_isSmall [.ref 107, .int (zn (tkw X n (tkq X n p)))] m4 = some (some (.int (zn 0)), m4) := by
        rcases Nat.lt_or_ge (tkw X n (tkq X n p)) n with q | q
        · rw [s_sm t4 q]
          have : ltr (X (tkw X n (tkq X n p))) = false := rn_st (P := fun j => ltr (X j)) (n - tkq X n p) (tkq X n p) (by show tkw X n (tkq X n p) < _; omega)
          rw [this]; rfl
        · rw [show tkw X n (tkq X n p) = n from by omega]; exact s_sm0 t4
      rw [b1, e_M_token_90, b5', stp, bI_s, br_eqT rfl, b6', b5', s_wordAt t4 hwl2 hwl1, bI_s, b5', b6', zn_sub hwl1]
      by_cases g6 : 6 < tkw X n (tkq X n p) - tkq X n p
      · rw [if_pos g6, rxw_big g6, zo_n, br_lt, zm_i, zn_i (by omega), if_pos (by omega), br_leF g6 (by omega)]
        exact ⟨_, rfl, ⟨by simp (disch := omega) only [w_ne, w_at, wl_ne, wl_at, wc_ne, wc_at, upd_at, upd_ne, upl_at, upl_ne, cpy_in0, zn_cl, zn_add, zn_mul, zn_sub, zn_pm, br_tt, br_ff, br_ltT, br_ltF, br_leT, br_leF, br_eqT, br_eqF, br_eqs, br_eqm, br_eqm', br_ltm, br_mlt, br_lem, br_mle, br_oiF, br_lgge, br_lgle, br_lggt, br_lglt, br_lgeq, br_zb, br_zb1, bV_s, bI_s, bL_s, zo_n, zo_s, b5'], by simp (disch := omega) only [w_ne, w_at, wl_ne, wl_at, wc_ne, wc_at, upd_at, upd_ne, upl_at, upl_ne, cpy_in0, zn_cl, zn_add, zn_mul, zn_sub, zn_pm, br_tt, br_ff, br_ltT, br_ltF, br_leT, br_leF, br_eqT, br_eqF, br_eqs, br_eqm, br_eqm', br_ltm, br_mlt, br_lem, br_mle, br_oiF, br_lgge, br_lgle, br_lggt, br_lglt, br_lgeq, br_zb, br_zb1, bV_s, bI_s, bL_s, zo_n, zo_s, b6'], Or.inr (Or.inr (Or.inr (Or.inr (Or.inr (Or.inr ⟨rfl, Or.inl (by simp (disch := omega) only [w_ne, w_at, wl_ne, wl_at, wc_ne, wc_at, upd_at, upd_ne, upl_at, upl_ne, cpy_in0, zn_cl, zn_add, zn_mul, zn_sub, zn_pm, br_tt, br_ff, br_ltT, br_ltF, br_leT, br_leF, br_eqT, br_eqF, br_eqs, br_eqm, br_eqm', br_ltm, br_mlt, br_lem, br_mle, br_oiF, br_lgge, br_lgle, br_lggt, br_lglt, br_lgeq, br_zb, br_zb1, bV_s, bI_s, bL_s, zo_n, zo_s])⟩)))))⟩, fkR_tr f1 (fkR_tr f2 (fkR_tr f4' ⟨rfl, fun c hc => by simp (disch := omega) only [w_ne, w_at, wl_ne, wl_at, wc_ne, wc_at, upd_at, upd_ne, upl_at, upl_ne, cpy_in0, zn_cl, zn_add, zn_mul, zn_sub, zn_pm, br_tt, br_ff, br_ltT, br_ltF, br_leT, br_leF, br_eqT, br_eqF, br_eqs, br_eqm, br_eqm', br_ltm, br_mlt, br_lem, br_mle, br_oiF, br_lgge, br_lgle, br_lggt, br_lglt, br_lgeq, br_zb, br_zb1, bV_s, bI_s, bL_s, zo_n, zo_s], fun i hi => by simp (disch := omega) only [w_ne, w_at, wl_ne, wl_at, wc_ne, wc_at, upd_at, upd_ne, upl_at, upl_ne, cpy_in0, zn_cl, zn_add, zn_mul, zn_sub, zn_pm, br_tt, br_ff, br_ltT, br_ltF, br_leT, br_leF, br_eqT, br_eqF, br_eqs, br_eqm, br_eqm', br_ltm, br_mlt, br_lem, br_mle, br_oiF, br_lgge, br_lgle, br_lggt, br_lglt, br_lgeq, br_zb, br_zb1, bV_s, bI_s, bL_s, zo_n, zo_s]⟩))⟩
      · have hkx := kx_le (c := pkp X (tkq X n p) (tkw X n (tkq X n p) - tkq X n p)) 25 0 (by omega)
        rw [if_neg g6, rxw_kx (by omega) hal]
        by_cases gk : kx (pkp X (tkq X n p) (tkw X n (tkq X n p) - tkq X n p)) 25 0 < 25
        · have hkk := (wrd_ok _ gk).2.2.2.2.2.2.2.1
          rw [if_pos gk, zo_s, br_ltF (by omega) (by omega)]
          exact ⟨_, rfl, ⟨by simp (disch := omega) only [w_ne, w_at, wl_ne, wl_at, wc_ne, wc_at, upd_at, upd_ne, upl_at, upl_ne, cpy_in0, zn_cl, zn_add, zn_mul, zn_sub, zn_pm, br_tt, br_ff, br_ltT, br_ltF, br_leT, br_leF, br_eqT, br_eqF, br_eqs, br_eqm, br_eqm', br_ltm, br_mlt, br_lem, br_mle, br_oiF, br_lgge, br_lgle, br_lggt, br_lglt, br_lgeq, br_zb, br_zb1, bV_s, bI_s, bL_s, zo_n, zo_s, b5'], by simp (disch := omega) only [w_ne, w_at, wl_ne, wl_at, wc_ne, wc_at, upd_at, upd_ne, upl_at, upl_ne, cpy_in0, zn_cl, zn_add, zn_mul, zn_sub, zn_pm, br_tt, br_ff, br_ltT, br_ltF, br_leT, br_leF, br_eqT, br_eqF, br_eqs, br_eqm, br_eqm', br_ltm, br_mlt, br_lem, br_mle, br_oiF, br_lgge, br_lgle, br_lggt, br_lglt, br_lgeq, br_zb, br_zb1, bV_s, bI_s, bL_s, zo_n, zo_s, b6'], Or.inl ⟨gk, by simp (disch := omega) only [w_ne, w_at, wl_ne, wl_at, wc_ne, wc_at, upd_at, upd_ne, upl_at, upl_ne, cpy_in0, zn_cl, zn_add, zn_mul, zn_sub, zn_pm, br_tt, br_ff, br_ltT, br_ltF, br_leT, br_leF, br_eqT, br_eqF, br_eqs, br_eqm, br_eqm', br_ltm, br_mlt, br_lem, br_mle, br_oiF, br_lgge, br_lgle, br_lggt, br_lglt, br_lgeq, br_zb, br_zb1, bV_s, bI_s, bL_s, zo_n, zo_s], by simp (disch := omega) only [w_ne, w_at, wl_ne, wl_at, wc_ne, wc_at, upd_at, upd_ne, upl_at, upl_ne, cpy_in0, zn_cl, zn_add, zn_mul, zn_sub, zn_pm, br_tt, br_ff, br_ltT, br_ltF, br_leT, br_leF, br_eqT, br_eqF, br_eqs, br_eqm, br_eqm', br_ltm, br_mlt, br_lem, br_mle, br_oiF, br_lgge, br_lgle, br_lggt, br_lglt, br_lgeq, br_zb, br_zb1, bV_s, bI_s, bL_s, zo_n, zo_s]⟩⟩, fkR_tr f1 (fkR_tr f2 (fkR_tr f4' ⟨rfl, fun c hc => by simp (disch := omega) only [w_ne, w_at, wl_ne, wl_at, wc_ne, wc_at, upd_at, upd_ne, upl_at, upl_ne, cpy_in0, zn_cl, zn_add, zn_mul, zn_sub, zn_pm, br_tt, br_ff, br_ltT, br_ltF, br_leT, br_leF, br_eqT, br_eqF, br_eqs, br_eqm, br_eqm', br_ltm, br_mlt, br_lem, br_mle, br_oiF, br_lgge, br_lgle, br_lggt, br_lglt, br_lgeq, br_zb, br_zb1, bV_s, bI_s, bL_s, zo_n, zo_s], fun i hi => by simp (disch := omega) only [w_ne, w_at, wl_ne, wl_at, wc_ne, wc_at, upd_at, upd_ne, upl_at, upl_ne, cpy_in0, zn_cl, zn_add, zn_mul, zn_sub, zn_pm, br_tt, br_ff, br_ltT, br_ltF, br_leT, br_leF, br_eqT, br_eqF, br_eqs, br_eqm, br_eqm', br_ltm, br_mlt, br_lem, br_mle, br_oiF, br_lgge, br_lgle, br_lggt, br_lglt, br_lgeq, br_zb, br_zb1, bV_s, bI_s, bL_s, zo_n, zo_s]⟩))⟩
        · rw [if_neg gk, zo_n, br_lt, zm_i, zn_i (by omega), if_pos (by omega), br_leT (by omega) (by omega)]
          let m6 : am_M := (am_w (am_w m4.1 107 9 zm) 107 8 (zn 2), m4.2)
          have f6 : fkR m4 m6 := ⟨rfl, fun c hc => by show (am_w (am_w m4.1 107 9 zm) 107 8 (zn 2)) c = _; simp (disch := omega) only [w_ne, w_at, wl_ne, wl_at, wc_ne, wc_at, upd_at, upd_ne, upl_at, upl_ne, cpy_in0, zn_cl, zn_add, zn_mul, zn_sub, zn_pm, br_tt, br_ff, br_ltT, br_ltF, br_leT, br_leF, br_eqT, br_eqF, br_eqs, br_eqm, br_eqm', br_ltm, br_mlt, br_lem, br_mle, br_oiF, br_lgge, br_lgle, br_lggt, br_lglt, br_lgeq, br_zb, br_zb1, bV_s, bI_s, bL_s, zo_n, zo_s], fun i hi => by show (am_w (am_w m4.1 107 9 zm) 107 8 (zn 2)) 107 i = _; simp (disch := omega) only [w_ne, w_at, wl_ne, wl_at, wc_ne, wc_at, upd_at, upd_ne, upl_at, upl_ne, cpy_in0, zn_cl, zn_add, zn_mul, zn_sub, zn_pm, br_tt, br_ff, br_ltT, br_ltF, br_leT, br_leF, br_eqT, br_eqF, br_eqs, br_eqm, br_eqm', br_ltm, br_mlt, br_lem, br_mle, br_oiF, br_lgge, br_lgle, br_lggt, br_lglt, br_lgeq, br_zb, br_zb1, bV_s, bI_s, bL_s, zo_n, zo_s]⟩
          have pk := s_packed (d := d) (t4.to f6) (a := tkq X n p) (L := tkw X n (tkq X n p) - tkq X n p) (by omega) (by omega) hal
          rw [show tkq X n p + (tkw X n (tkq X n p) - tkq X n p) = tkw X n (tkq X n p) from by omega] at pk
          have pk' : am_c (d + 1) y_M_packed [.ref 107, .int (zn (tkq X n p)), .int (zn (tkw X n (tkq X n p)))] (am_w (am_w m4.1 107 9 zm) 107 8 (zn 2), m4.2) = some (some (.int (zn (pkp X (tkq X n p) (tkw X n (tkq X n p) - tkq X n p)))), (am_w (am_w m4.1 107 9 zm) 107 8 (zn 2), m4.2)) := pk
          rw [pk', bI_s]
          exact ⟨_, rfl, ⟨by simp (disch := omega) only [w_ne, w_at, wl_ne, wl_at, wc_ne, wc_at, upd_at, upd_ne, upl_at, upl_ne, cpy_in0, zn_cl, zn_add, zn_mul, zn_sub, zn_pm, br_tt, br_ff, br_ltT, br_ltF, br_leT, br_leF, br_eqT, br_eqF, br_eqs, br_eqm, br_eqm', br_ltm, br_mlt, br_lem, br_mle, br_oiF, br_lgge, br_lgle, br_lggt, br_lglt, br_lgeq, br_zb, br_zb1, bV_s, bI_s, bL_s, zo_n, zo_s, b5'], by simp (disch := omega) only [w_ne, w_at, wl_ne, wl_at, wc_ne, wc_at, upd_at, upd_ne, upl_at, upl_ne, cpy_in0, zn_cl, zn_add, zn_mul, zn_sub, zn_pm, br_tt, br_ff, br_ltT, br_ltF, br_leT, br_leF, br_eqT, br_eqF, br_eqs, br_eqm, br_eqm', br_ltm, br_mlt, br_lem, br_mle, br_oiF, br_lgge, br_lgle, br_lggt, br_lglt, br_lgeq, br_zb, br_zb1, bV_s, bI_s, bL_s, zo_n, zo_s, b6'], Or.inr (Or.inl ⟨(by show kx (pkp X (tkq X n p) (tkw X n (tkq X n p) - tkq X n p)) 25 0 = 25; omega), by simp (disch := omega) only [w_ne, w_at, wl_ne, wl_at, wc_ne, wc_at, upd_at, upd_ne, upl_at, upl_ne, cpy_in0, zn_cl, zn_add, zn_mul, zn_sub, zn_pm, br_tt, br_ff, br_ltT, br_ltF, br_leT, br_leF, br_eqT, br_eqF, br_eqs, br_eqm, br_eqm', br_ltm, br_mlt, br_lem, br_mle, br_oiF, br_lgge, br_lgle, br_lggt, br_lglt, br_lgeq, br_zb, br_zb1, bV_s, bI_s, bL_s, zo_n, zo_s], by simp (disch := omega) only [w_ne, w_at, wl_ne, wl_at, wc_ne, wc_at, upd_at, upd_ne, upl_at, upl_ne, cpy_in0, zn_cl, zn_add, zn_mul, zn_sub, zn_pm, br_tt, br_ff, br_ltT, br_ltF, br_leT, br_leF, br_eqT, br_eqF, br_eqs, br_eqm, br_eqm', br_ltm, br_mlt, br_lem, br_mle, br_oiF, br_lgge, br_lgle, br_lggt, br_lglt, br_lgeq, br_zb, br_zb1, bV_s, bI_s, bL_s, zo_n, zo_s]⟩)⟩, fkR_tr f1 (fkR_tr f2 (fkR_tr f4' ⟨rfl, fun c hc => by simp (disch := omega) only [w_ne, w_at, wl_ne, wl_at, wc_ne, wc_at, upd_at, upd_ne, upl_at, upl_ne, cpy_in0, zn_cl, zn_add, zn_mul, zn_sub, zn_pm, br_tt, br_ff, br_ltT, br_ltF, br_leT, br_leF, br_eqT, br_eqF, br_eqs, br_eqm, br_eqm', br_ltm, br_mlt, br_lem, br_mle, br_oiF, br_lgge, br_lgle, br_lggt, br_lglt, br_lgeq, br_zb, br_zb1, bV_s, bI_s, bL_s, zo_n, zo_s], fun i hi => by simp (disch := omega) only [w_ne, w_at, wl_ne, wl_at, wc_ne, wc_at, upd_at, upd_ne, upl_at, upl_ne, cpy_in0, zn_cl, zn_add, zn_mul, zn_sub, zn_pm, br_tt, br_ff, br_ltT, br_ltF, br_leT, br_leF, br_eqT, br_eqF, br_eqs, br_eqm, br_eqm', br_ltm, br_mlt, br_lem, br_mle, br_oiF, br_lgge, br_lgle, br_lggt, br_lglt, br_lgeq, br_zb, br_zb1, bV_s, bI_s, bL_s, zo_n, zo_s]⟩))⟩
    · rw [if_neg gl, if_neg gl, m23, i2, bI_s, br_zb]
      by_cases gd : dgi (X (tkq X n p)) = true
      · rw [if_pos gd, if_pos gd]
        have f3 : fkR m2 (am_w (am_w m2.1 107 8 (zn 3)) 107 9 (zn 0), m2.2) := ⟨rfl, fun c hc => by simp (disch := omega) only [w_ne, w_at, wl_ne, wl_at, wc_ne, wc_at, upd_at, upd_ne, upl_at, upl_ne, cpy_in0, zn_cl, zn_add, zn_mul, zn_sub, zn_pm, br_tt, br_ff, br_ltT, br_ltF, br_leT, br_leF, br_eqT, br_eqF, br_eqs, br_eqm, br_eqm', br_ltm, br_mlt, br_lem, br_mle, br_oiF, br_lgge, br_lgle, br_lggt, br_lglt, br_lgeq, br_zb, br_zb1, bV_s, bI_s, bL_s, zo_n, zo_s], fun i hi => by simp (disch := omega) only [w_ne, w_at, wl_ne, wl_at, wc_ne, wc_at, upd_at, upd_ne, upl_at, upl_ne, cpy_in0, zn_cl, zn_add, zn_mul, zn_sub, zn_pm, br_tt, br_ff, br_ltT, br_ltF, br_leT, br_leF, br_eqT, br_eqF, br_eqs, br_eqm, br_eqm', br_ltm, br_mlt, br_lem, br_mle, br_oiF, br_lgge, br_lgle, br_lggt, br_lglt, br_lgeq, br_zb, br_zb1, bV_s, bI_s, bL_s, zo_n, zo_s]⟩
        obtain ⟨m4, b1, b2, b3, b4, b5, b6⟩ := lq_213 (d := d) (n - tkq X n p) (tkq X n p) f' 0 (am_w (am_w m2.1 107 8 (zn 3)) 107 9 (zn 0), m2.2) (by omega) (by omega) (by omega) (t2.to f3) (by simp (disch := omega) only [w_ne, w_at, wl_ne, wl_at, wc_ne, wc_at, upd_at, upd_ne, upl_at, upl_ne, cpy_in0, zn_cl, zn_add, zn_mul, zn_sub, zn_pm, br_tt, br_ff, br_ltT, br_ltF, br_leT, br_leF, br_eqT, br_eqF, br_eqs, br_eqm, br_eqm', br_ltm, br_mlt, br_lem, br_mle, br_oiF, br_lgge, br_lgle, br_lggt, br_lglt, br_lgeq, br_zb, br_zb1, bV_s, bI_s, bL_s, zo_n, zo_s, m23]) (by simp (disch := omega) only [w_ne, w_at, wl_ne, wl_at, wc_ne, wc_at, upd_at, upd_ne, upl_at, upl_ne, cpy_in0, zn_cl, zn_add, zn_mul, zn_sub, zn_pm, br_tt, br_ff, br_ltT, br_ltF, br_leT, br_leF, br_eqT, br_eqF, br_eqs, br_eqm, br_eqm', br_ltm, br_mlt, br_lem, br_mle, br_oiF, br_lgge, br_lgle, br_lggt, br_lglt, br_lgeq, br_zb, br_zb1, bV_s, bI_s, bL_s, zo_n, zo_s])
        have hdl := rn_le (P := fun j => dgi (X j)) (n - tkq X n p) (tkq X n p)
        have hnr := nr_nv (X := X) (tkd X n (tkq X n p) - tkq X n p) (tkq X n p) 0 0 (fun j h1 h2 => of_decide_eq_true (rn_al (P := fun j => dgi (X j)) (n - tkq X n p) (tkq X n p) j h1 (by show j < tkd X n (tkq X n p); omega))) (by omega) (by omega) (fun _ => rfl) (fun h => h)
        rw [b1]
        exact ⟨m4, rfl, ⟨b5, by rw [b4 10 (by omega) (by omega)]; simp (disch := omega) only [w_ne, w_at, wl_ne, wl_at, wc_ne, wc_at, upd_at, upd_ne, upl_at, upl_ne, cpy_in0, zn_cl, zn_add, zn_mul, zn_sub, zn_pm, br_tt, br_ff, br_ltT, br_ltF, br_leT, br_leF, br_eqT, br_eqF, br_eqs, br_eqm, br_eqm', br_ltm, br_mlt, br_lem, br_mle, br_oiF, br_lgge, br_lgle, br_lggt, br_lglt, br_lgeq, br_zb, br_zb1, bV_s, bI_s, bL_s, zo_n, zo_s, m25], Or.inr (Or.inr (Or.inl ⟨rfl, by rw [b4 8 (by omega) (by omega)]; simp (disch := omega) only [w_ne, w_at, wl_ne, wl_at, wc_ne, wc_at, upd_at, upd_ne, upl_at, upl_ne, cpy_in0, zn_cl, zn_add, zn_mul, zn_sub, zn_pm, br_tt, br_ff, br_ltT, br_ltF, br_leT, br_leF, br_eqT, br_eqF, br_eqs, br_eqm, br_eqm', br_ltm, br_mlt, br_lem, br_mle, br_oiF, br_lgge, br_lgle, br_lggt, br_lglt, br_lgeq, br_zb, br_zb1, bV_s, bI_s, bL_s, zo_n, zo_s], _, b6, hnr⟩))⟩, fkR_tr f1 (fkR_tr f2 (fkR_tr f3 ⟨b2, b3, fun i hi => b4 i (by omega) (by omega)⟩))⟩
      · obtain ⟨m4, b1, b2, b3, b4, b5⟩ := s_signT (d := d) t2 hlt m23
        rw [if_neg gd, if_neg gd, b1, bV_s]
        exact ⟨m4, rfl, ⟨b3, by rw [b4]; exact m25, b5⟩, fkR_tr f1 (fkR_tr f2 b2)⟩
