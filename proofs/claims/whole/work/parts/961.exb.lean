/-! laws' lines: signs are bound -/
theorem w_comm {f : Nat → Nat → Int32} {a i b j : Nat} {x y : Int32} (h : a ≠ b) : am_w (am_w f a i x) b j y = am_w (am_w f b j y) a i x := by
  funext c
  by_cases e : c = a
  · subst e; rw [w_ne h, w_at, w_at, w_ne h]
  · by_cases e1 : c = b
    · subst e1; rw [w_at, w_ne e, w_ne e, w_at]
    · rw [w_ne e1, w_ne e, w_ne e, w_ne e1]
theorem s_grown {X : Nat → Nat} {n q p p2 L d : Nat} {T G F : Td} {fg : Nat → Bool} {cn : Nat} {t : Tk} {m : am_M} {a3 : Int32} (h : pR X n T G F fg cn t m) (hk : F 2 0 < 64) (hv : 3 ≤ q → a3 = zn p2) (hl : m.1 107 41 = zn L) (hL : L < 96) : ∃ m', am_c (d + 1) y_M_grown [.ref 107, .int (zn q), .int (zn p), .int a3] m = some (none, m') ∧ pR X n T (Gk G (F 2 0) q p p2) (Fk F) fg cn t m' ∧ m'.1 129 = upd (m.1 129) L (zn (F 2 0)) ∧ m'.1 107 41 = zn (L + 1) ∧ (∀ i, i = 40 ∨ i = 42 ∨ i = 44 ∨ i = 45 → m'.1 107 i = m.1 107 i) ∧ m'.1 128 = m.1 128 ∧ frR m m' := by
  have h1 := (h.x (c := 129) (j := L) (x := zn (F 2 0)) (by omega)).x (c := 107) (j := 41) (x := zn (L + 1)) (by omega)
  have h2 := h1.knot (q := q) (p := p) (p2 := p2) (a3 := a3) hv
  refine ⟨_, ?_, h2, ?_, ?_, fun i hi => ?_, ?_, ?_⟩
  · rw [n_M_grown, h.kn, zn_add, br_oiF (by omega) (by omega), br_oiF (by omega) (by omega), br_oiF (by omega) (by omega), hl, br_oiF (by omega) (by omega), zn_cl (by omega), zn_cl (by omega), zn_add, zn_add, w_comm (a := 127) (b := 129) (by omega), w_comm (a := 126) (b := 129) (by omega), w_comm (a := 125) (b := 129) (by omega), w_comm (a := 127) (b := 107) (j := 41) (by omega), w_comm (a := 126) (b := 107) (j := 41) (by omega), w_comm (a := 125) (b := 107) (j := 41) (by omega)]
  · simp (disch := omega) only [w_ne, w_at, wl_ne, wl_at, wc_ne, wc_at, upd_at, upd_ne, upl_at, upl_ne, cpy_in0, zn_cl, zn_add, zn_mul, zn_sub, zn_pm, br_tt, br_ff, br_ltT, br_ltF, br_leT, br_leF, br_eqT, br_eqF, br_eqs, br_eqm, br_eqm', br_ltm, br_mlt, br_lem, br_mle, br_oiF, br_lgge, br_lgle, br_lggt, br_lglt, br_lgeq, br_zb, br_zb1, bV_s, bI_s, bL_s, zo_n, zo_s]
  · simp (disch := omega) only [w_ne, w_at, wl_ne, wl_at, wc_ne, wc_at, upd_at, upd_ne, upl_at, upl_ne, cpy_in0, zn_cl, zn_add, zn_mul, zn_sub, zn_pm, br_tt, br_ff, br_ltT, br_ltF, br_leT, br_leF, br_eqT, br_eqF, br_eqs, br_eqm, br_eqm', br_ltm, br_mlt, br_lem, br_mle, br_oiF, br_lgge, br_lgle, br_lggt, br_lglt, br_lgeq, br_zb, br_zb1, bV_s, bI_s, bL_s, zo_n, zo_s]
  · show am_w (am_w (am_w (am_w (am_w (am_w m.1 129 L (zn (F 2 0))) 107 41 (zn (L + 1))) 125 (64 + F 2 0) (zn q)) 126 (64 + F 2 0) (zn p)) 127 (64 + F 2 0) a3) 107 19 (zn (F 2 0 + 1)) 107 i = _
    rw [wr_ne (by omega), wr_ne (by omega), wr_ne (by omega), wr_ne (by omega), wr_ne (by omega), wr_ne (by omega)]
  · simp (disch := omega) only [w_ne, w_at, wl_ne, wl_at, wc_ne, wc_at, upd_at, upd_ne, upl_at, upl_ne, cpy_in0, zn_cl, zn_add, zn_mul, zn_sub, zn_pm, br_tt, br_ff, br_ltT, br_ltF, br_leT, br_leF, br_eqT, br_eqF, br_eqs, br_eqm, br_eqm', br_ltm, br_mlt, br_lem, br_mle, br_oiF, br_lgge, br_lgle, br_lggt, br_lglt, br_lgeq, br_zb, br_zb1, bV_s, bI_s, bL_s, zo_n, zo_s]
  · refine frR_tr (frR_w (c := 129) (j := L) (x := zn (F 2 0)) (by unfold wokR; omega)) (frR_tr (frR_w (c := 107) (j := 41) (x := zn (L + 1)) (by unfold wokR; omega)) (frR_tr (frR_w (c := 125) (j := 64 + F 2 0) (x := zn q) (by unfold wokR; omega)) (frR_tr (frR_w (c := 126) (j := 64 + F 2 0) (x := zn p) (by unfold wokR; omega)) (frR_tr (frR_w (c := 127) (j := 64 + F 2 0) (x := a3) (by unfold wokR; omega)) (frR_w (by unfold wokR; omega))))))
theorem kcl_w {q p : Nat} (h : 2 ≤ q) (h14 : q ≤ 14) : wkc q = kcl q p := by
  unfold wkc
  rw [if_neg (by omega)]
  by_cases e : q = 2
  · subst e; rfl
  · exact (kcl_b (p := p) (by omega) h14).1.symm
theorem wkc_ok : ∀ q, q < 15 → q = 0 ∨ 2 ≤ q → wkc q < 100 := by decide
/-- one sign bound, class -/
theorem put_C {X : Nat → Nat} {n q p p2 d x : Nat} {T G F : Td} {fg : Nat → Bool} {cn : Nat} {t : Tk} {w : List Nat} {e nt : Bool} {m : am_M} {g : Nat} (h : pC X n T G F fg cn t m) (c : eC (q :: w) e nt m) (hk : F 2 0 < 64) (hq : 2 ≤ q) (h14 : q ≤ 14) (hx : x ≤ rk q) (hw : w.length < 72) : ∃ m1, r_Reader_putWaiting_0 (d + 1) (g + 1) (zn x) m = r_Reader_putWaiting_0 (d + 1) g (zn x) m1 ∧ pC X n T (Gk G (F 2 0) q p p2) (Fk F) fg cn t m1 ∧ eC w e nt m1 ∧ frC m m1 := by
  have r6 := rk_le q
  have h1 := h.x (c := 1) (j := 3) (x := zn w.length) (by omega)
  have h2 := h1.knot (q := q) (p := p) (p2 := p2) (v := zn 0) (fun e => by omega)
  have hl : m.1 1 3 = zn (w.length + 1) := c.l
  refine ⟨_, ?_, h2, ⟨by simp (disch := omega) only [w_ne, w_at, wl_ne, wl_at, wc_ne, wc_at, upd_at, upd_ne, upl_at, upl_ne, cpy_in0, zn_cl, zn_add, zn_mul, zn_sub, zn_pm, br_tt, br_ff, br_ltT, br_ltF, br_leT, br_leF, br_eqT, br_eqF, br_eqs, br_eqm, br_eqm', br_ltm, br_mlt, br_lem, br_mle, br_oiF, br_lgge, br_lgle, br_lggt, br_lglt, br_lgeq, br_zb, br_zb1, bV_s, bI_s, bL_s, zo_n, zo_s], skC_w c.s.2 (fun i hi => by simp (disch := omega) only [w_ne, w_at, wl_ne, wl_at, wc_ne, wc_at, upd_at, upd_ne, upl_at, upl_ne, cpy_in0, zn_cl, zn_add, zn_mul, zn_sub, zn_pm, br_tt, br_ff, br_ltT, br_ltF, br_leT, br_leF, br_eqT, br_eqF, br_eqs, br_eqm, br_eqm', br_ltm, br_mlt, br_lem, br_mle, br_oiF, br_lgge, br_lgle, br_lggt, br_lglt, br_lgeq, br_zb, br_zb1, bV_s, bI_s, bL_s, zo_n, zo_s]), by simp (disch := omega) only [w_ne, w_at, wl_ne, wl_at, wc_ne, wc_at, upd_at, upd_ne, upl_at, upl_ne, cpy_in0, zn_cl, zn_add, zn_mul, zn_sub, zn_pm, br_tt, br_ff, br_ltT, br_ltF, br_leT, br_leF, br_eqT, br_eqF, br_eqs, br_eqm, br_eqm', br_ltm, br_mlt, br_lem, br_mle, br_oiF, br_lgge, br_lgle, br_lggt, br_lglt, br_lgeq, br_zb, br_zb1, bV_s, bI_s, bL_s, zo_n, zo_s, c.o]; rw [pr_, if_neg (by omega)]; rfl, by simp (disch := omega) only [w_ne, w_at, wl_ne, wl_at, wc_ne, wc_at, upd_at, upd_ne, upl_at, upl_ne, cpy_in0, zn_cl, zn_add, zn_mul, zn_sub, zn_pm, br_tt, br_ff, br_ltT, br_ltF, br_leT, br_leF, br_eqT, br_eqF, br_eqs, br_eqm, br_eqm', br_ltm, br_mlt, br_lem, br_mle, br_oiF, br_lgge, br_lgle, br_lggt, br_lglt, br_lgeq, br_zb, br_zb1, bV_s, bI_s, bL_s, zo_n, zo_s, c.e], by simp (disch := omega) only [w_ne, w_at, wl_ne, wl_at, wc_ne, wc_at, upd_at, upd_ne, upl_at, upl_ne, cpy_in0, zn_cl, zn_add, zn_mul, zn_sub, zn_pm, br_tt, br_ff, br_ltT, br_ltF, br_leT, br_leF, br_eqT, br_eqF, br_eqs, br_eqm, br_eqm', br_ltm, br_mlt, br_lem, br_mle, br_oiF, br_lgge, br_lgle, br_lggt, br_lglt, br_lgeq, br_zb, br_zb1, bV_s, bI_s, bL_s, zo_n, zo_s, c.n]⟩, ?_⟩
  · have e18 : m.1 24 w.length = zn (kcl q p) := by rw [c.s.1, kcl_w hq h14]
    rw [e_Reader_putWaiting_0, hl, br_leF (by omega) (by omega), zn_sub (by omega), Nat.add_sub_cancel, br_oiF (by omega) (by omega), zn_cl (by omega), c.s.1, s_strg, strg_q q (by omega) (by omega), bI_s, br_ltF (by omega) (by omega), hl, zn_sub (by omega), Nat.add_sub_cancel, br_oiF (by omega) (by omega), zn_cl (by omega), e18, n_Laws_put]
    have hz : (am_w m.1 1 3 (zn w.length), m.2).1 17 2 = zn (F 2 0) := h1.kn
    rw [hz, br_leF (by omega) (by omega), br_oiF (by omega) (by omega), br_oiF (by omega) (by omega), zn_cl (by omega), zn_add, bV_s]
  · exact frC_tr (frC_w (c := 1) (j := 3) (x := zn w.length) (by omega)) (frC_tr (frC_w (c := 18) (j := F 2 0) (x := zn (kcl q p)) (by omega)) (frC_tr (frC_w (c := 19) (j := F 2 0) (x := zn 0) (by omega)) (frC_w (by omega))))
/-- one sign bound, reference -/
theorem put_R2 {X : Nat → Nat} {n x0 d x : Nat} {T G F : Td} {fg : Nat → Bool} {cn : Nat} {t : Tk} {w s : List Nat} {e nt : Bool} {m : am_M} {g : Nat} {a b c' : Option Value} (h : pR X n T G F fg cn t m) (c : eR (2 :: w) (x0 :: s) e nt m) (hk : F 2 0 < 64) (hx : x ≤ 3) (hw : w.length < 96) (hs : s.length < 96) : ∃ m1 a1 b1 c1, r_M_bind_0 (d + 1) (g + 1) (zn x) a b c' m = r_M_bind_0 (d + 1) g (zn x) a1 b1 c1 m1 ∧ pR X n T (Gk G (F 2 0) 2 x0 0) (Fk F) fg cn t m1 ∧ eR w (F 2 0 :: s) e nt m1 ∧ frR m m1 := by
  have h1 := (h.x (c := 107) (j := 40) (x := zn w.length) (by omega)).x (c := 107) (j := 41) (x := zn s.length) (by omega)
  have r2 : rk 2 = 3 := rfl
  have hl : m.1 107 40 = zn (w.length + 1) := c.l
  have hh : m.1 107 41 = zn (s.length + 1) := c.hl
  have ht : m.1 128 w.length = zn 2 := c.s.1
  have hd : m.1 129 s.length = zn x0 := c.h.1
  obtain ⟨m1, b1, b2, b3, b4, b5, b6, b7⟩ := s_grown (d := d) (q := 2) (p := x0) (p2 := 0) (a3 := zm) (L := s.length) h1 hk (fun e => by omega) (by simp (disch := omega) only [w_ne, w_at, wl_ne, wl_at, wc_ne, wc_at, upd_at, upd_ne, upl_at, upl_ne, cpy_in0, zn_cl, zn_add, zn_mul, zn_sub, zn_pm, br_tt, br_ff, br_ltT, br_ltF, br_leT, br_leF, br_eqT, br_eqF, br_eqs, br_eqm, br_eqm', br_ltm, br_mlt, br_lem, br_mle, br_oiF, br_lgge, br_lgle, br_lggt, br_lglt, br_lgeq, br_zb, br_zb1, bV_s, bI_s, bL_s, zo_n, zo_s]) hs
  refine ⟨m1, some (.int (zn 2)), some (.int zm), some (.int (zn x0)), ?_, b2, ⟨?_, ?_, b4, ⟨by rw [b3, upd_at], hdR_w c.h.2 (fun i hi => by rw [b3, upd_ne (by omega)]; simp (disch := omega) only [w_ne, w_at, wl_ne, wl_at, wc_ne, wc_at, upd_at, upd_ne, upl_at, upl_ne, cpy_in0, zn_cl, zn_add, zn_mul, zn_sub, zn_pm, br_tt, br_ff, br_ltT, br_ltF, br_leT, br_leF, br_eqT, br_eqF, br_eqs, br_eqm, br_eqm', br_ltm, br_mlt, br_lem, br_mle, br_oiF, br_lgge, br_lgle, br_lggt, br_lglt, br_lgeq, br_zb, br_zb1, bV_s, bI_s, bL_s, zo_n, zo_s])⟩, ?_, ?_, ?_⟩, ?_⟩
  · rw [e_M_bind_0, hl, br_leF (by omega) (by omega), zn_sub (by omega), Nat.add_sub_cancel, br_oiF (by omega) (by omega), zn_cl (by omega), ht, s_rank (by omega), bI_s, br_ltF (by omega) (by omega), hl, zn_sub (by omega), Nat.add_sub_cancel, br_oiF (by omega) (by omega), zn_cl (by omega), ht, br_eqT rfl, n_M_dropHeld]
    have z1 : (am_w m.1 107 40 (zn w.length), m.2).1 107 41 = zn (s.length + 1) := by simp (disch := omega) only [w_ne, w_at, wl_ne, wl_at, wc_ne, wc_at, upd_at, upd_ne, upl_at, upl_ne, cpy_in0, zn_cl, zn_add, zn_mul, zn_sub, zn_pm, br_tt, br_ff, br_ltT, br_ltF, br_leT, br_leF, br_eqT, br_eqF, br_eqs, br_eqm, br_eqm', br_ltm, br_mlt, br_lem, br_mle, br_oiF, br_lgge, br_lgle, br_lggt, br_lglt, br_lgeq, br_zb, br_zb1, bV_s, bI_s, bL_s, zo_n, zo_s, hh]
    have z2 : (am_w m.1 107 40 (zn w.length), m.2).1 129 s.length = zn x0 := by simp (disch := omega) only [w_ne, w_at, wl_ne, wl_at, wc_ne, wc_at, upd_at, upd_ne, upl_at, upl_ne, cpy_in0, zn_cl, zn_add, zn_mul, zn_sub, zn_pm, br_tt, br_ff, br_ltT, br_ltF, br_leT, br_leF, br_eqT, br_eqF, br_eqs, br_eqm, br_eqm', br_ltm, br_mlt, br_lem, br_mle, br_oiF, br_lgge, br_lgle, br_lggt, br_lglt, br_lgeq, br_zb, br_zb1, bV_s, bI_s, bL_s, zo_n, zo_s, hd]
    rw [z1, zn_sub (by omega), Nat.add_sub_cancel, br_oiF (by omega) (by omega), zn_cl (by omega), z2, bI_s, b1, bV_s]
  · rw [b5 40 (by omega)]; simp (disch := omega) only [w_ne, w_at, wl_ne, wl_at, wc_ne, wc_at, upd_at, upd_ne, upl_at, upl_ne, cpy_in0, zn_cl, zn_add, zn_mul, zn_sub, zn_pm, br_tt, br_ff, br_ltT, br_ltF, br_leT, br_leF, br_eqT, br_eqF, br_eqs, br_eqm, br_eqm', br_ltm, br_mlt, br_lem, br_mle, br_oiF, br_lgge, br_lgle, br_lggt, br_lglt, br_lgeq, br_zb, br_zb1, bV_s, bI_s, bL_s, zo_n, zo_s]
  · exact skR_w c.s.2 (fun i hi => by rw [b6]; simp (disch := omega) only [w_ne, w_at, wl_ne, wl_at, wc_ne, wc_at, upd_at, upd_ne, upl_at, upl_ne, cpy_in0, zn_cl, zn_add, zn_mul, zn_sub, zn_pm, br_tt, br_ff, br_ltT, br_ltF, br_leT, br_leF, br_eqT, br_eqF, br_eqs, br_eqm, br_eqm', br_ltm, br_mlt, br_lem, br_mle, br_oiF, br_lgge, br_lgle, br_lggt, br_lglt, br_lgeq, br_zb, br_zb1, bV_s, bI_s, bL_s, zo_n, zo_s])
  · rw [b5 42 (by omega)]; simp (disch := omega) only [w_ne, w_at, wl_ne, wl_at, wc_ne, wc_at, upd_at, upd_ne, upl_at, upl_ne, cpy_in0, zn_cl, zn_add, zn_mul, zn_sub, zn_pm, br_tt, br_ff, br_ltT, br_ltF, br_leT, br_leF, br_eqT, br_eqF, br_eqs, br_eqm, br_eqm', br_ltm, br_mlt, br_lem, br_mle, br_oiF, br_lgge, br_lgle, br_lggt, br_lglt, br_lgeq, br_zb, br_zb1, bV_s, bI_s, bL_s, zo_n, zo_s, c.o]; rfl
  · rw [b5 44 (by omega)]; simp (disch := omega) only [w_ne, w_at, wl_ne, wl_at, wc_ne, wc_at, upd_at, upd_ne, upl_at, upl_ne, cpy_in0, zn_cl, zn_add, zn_mul, zn_sub, zn_pm, br_tt, br_ff, br_ltT, br_ltF, br_leT, br_leF, br_eqT, br_eqF, br_eqs, br_eqm, br_eqm', br_ltm, br_mlt, br_lem, br_mle, br_oiF, br_lgge, br_lgle, br_lggt, br_lglt, br_lgeq, br_zb, br_zb1, bV_s, bI_s, bL_s, zo_n, zo_s, c.e]
  · rw [b5 45 (by omega)]; simp (disch := omega) only [w_ne, w_at, wl_ne, wl_at, wc_ne, wc_at, upd_at, upd_ne, upl_at, upl_ne, cpy_in0, zn_cl, zn_add, zn_mul, zn_sub, zn_pm, br_tt, br_ff, br_ltT, br_ltF, br_leT, br_leF, br_eqT, br_eqF, br_eqs, br_eqm, br_eqm', br_ltm, br_mlt, br_lem, br_mle, br_oiF, br_lgge, br_lgle, br_lggt, br_lglt, br_lgeq, br_zb, br_zb1, bV_s, bI_s, bL_s, zo_n, zo_s, c.n]
  · exact frR_tr (frR_w (c := 107) (j := 40) (x := zn w.length) (by unfold wokR; omega)) (frR_tr (frR_w (c := 107) (j := 41) (x := zn s.length) (by unfold wokR; omega)) b7)
theorem put_R3 {X : Nat → Nat} {n q x0 y0 d x : Nat} {T G F : Td} {fg : Nat → Bool} {cn : Nat} {t : Tk} {w s : List Nat} {e nt : Bool} {m : am_M} {g : Nat} {a b c' : Option Value} (h : pR X n T G F fg cn t m) (c : eR (q :: w) (y0 :: x0 :: s) e nt m) (hk : F 2 0 < 64) (hq : 3 ≤ q) (h14 : q ≤ 14) (hx : x ≤ rk q) (hw : w.length < 96) (hs : s.length < 95) : ∃ m1 a1 b1 c1, r_M_bind_0 (d + 1) (g + 1) (zn x) a b c' m = r_M_bind_0 (d + 1) g (zn x) a1 b1 c1 m1 ∧ pR X n T (Gk G (F 2 0) q x0 y0) (Fk F) fg cn t m1 ∧ eR w (F 2 0 :: s) e nt m1 ∧ frR m m1 := by
  have r6 := rk_le q
  have h1 := ((h.x (c := 107) (j := 40) (x := zn w.length) (by omega)).x (c := 107) (j := 41) (x := zn (s.length + 1)) (by omega)).x (c := 107) (j := 41) (x := zn s.length) (by omega)
  have hl : m.1 107 40 = zn (w.length + 1) := c.l
  have hh : m.1 107 41 = zn (s.length + 1 + 1) := c.hl
  have ht : m.1 128 w.length = zn q := c.s.1
  have hy : m.1 129 (s.length + 1) = zn y0 := c.h.1
  have hd : m.1 129 s.length = zn x0 := c.h.2.1
  obtain ⟨m1, b1, b2, b3, b4, b5, b6, b7⟩ := s_grown (d := d) (q := q) (p := x0) (p2 := y0) (a3 := zn y0) (L := s.length) h1 hk (fun e => rfl) (by simp (disch := omega) only [w_ne, w_at, wl_ne, wl_at, wc_ne, wc_at, upd_at, upd_ne, upl_at, upl_ne, cpy_in0, zn_cl, zn_add, zn_mul, zn_sub, zn_pm, br_tt, br_ff, br_ltT, br_ltF, br_leT, br_leF, br_eqT, br_eqF, br_eqs, br_eqm, br_eqm', br_ltm, br_mlt, br_lem, br_mle, br_oiF, br_lgge, br_lgle, br_lggt, br_lglt, br_lgeq, br_zb, br_zb1, bV_s, bI_s, bL_s, zo_n, zo_s]) (by omega)
  refine ⟨m1, some (.int (zn q)), some (.int (zn y0)), some (.int (zn x0)), ?_, b2, ⟨?_, ?_, b4, ⟨by rw [b3, upd_at], hdR_w c.h.2.2 (fun i hi => by rw [b3, upd_ne (by omega)]; simp (disch := omega) only [w_ne, w_at, wl_ne, wl_at, wc_ne, wc_at, upd_at, upd_ne, upl_at, upl_ne, cpy_in0, zn_cl, zn_add, zn_mul, zn_sub, zn_pm, br_tt, br_ff, br_ltT, br_ltF, br_leT, br_leF, br_eqT, br_eqF, br_eqs, br_eqm, br_eqm', br_ltm, br_mlt, br_lem, br_mle, br_oiF, br_lgge, br_lgle, br_lggt, br_lglt, br_lgeq, br_zb, br_zb1, bV_s, bI_s, bL_s, zo_n, zo_s])⟩, ?_, ?_, ?_⟩, ?_⟩
  · rw [e_M_bind_0, hl, br_leF (by omega) (by omega), zn_sub (by omega), Nat.add_sub_cancel, br_oiF (by omega) (by omega), zn_cl (by omega), ht, s_rank (by omega), bI_s, br_ltF (by omega) (by omega), hl, zn_sub (by omega), Nat.add_sub_cancel, br_oiF (by omega) (by omega), zn_cl (by omega), ht, br_eqF (by omega) (by omega) (by omega), n_M_dropHeld]
    have z1 : (am_w m.1 107 40 (zn w.length), m.2).1 107 41 = zn (s.length + 1 + 1) := by simp (disch := omega) only [w_ne, w_at, wl_ne, wl_at, wc_ne, wc_at, upd_at, upd_ne, upl_at, upl_ne, cpy_in0, zn_cl, zn_add, zn_mul, zn_sub, zn_pm, br_tt, br_ff, br_ltT, br_ltF, br_leT, br_leF, br_eqT, br_eqF, br_eqs, br_eqm, br_eqm', br_ltm, br_mlt, br_lem, br_mle, br_oiF, br_lgge, br_lgle, br_lggt, br_lglt, br_lgeq, br_zb, br_zb1, bV_s, bI_s, bL_s, zo_n, zo_s, hh]
    have z2 : (am_w m.1 107 40 (zn w.length), m.2).1 129 (s.length + 1) = zn y0 := by simp (disch := omega) only [w_ne, w_at, wl_ne, wl_at, wc_ne, wc_at, upd_at, upd_ne, upl_at, upl_ne, cpy_in0, zn_cl, zn_add, zn_mul, zn_sub, zn_pm, br_tt, br_ff, br_ltT, br_ltF, br_leT, br_leF, br_eqT, br_eqF, br_eqs, br_eqm, br_eqm', br_ltm, br_mlt, br_lem, br_mle, br_oiF, br_lgge, br_lgle, br_lggt, br_lglt, br_lgeq, br_zb, br_zb1, bV_s, bI_s, bL_s, zo_n, zo_s, hy]
    rw [z1, zn_sub (by omega), Nat.add_sub_cancel, br_oiF (by omega) (by omega), zn_cl (by omega), z2, bI_s, n_M_dropHeld]
    have z3 : (am_w (am_w m.1 107 40 (zn w.length)) 107 41 (zn (s.length + 1)), m.2).1 107 41 = zn (s.length + 1) := by simp (disch := omega) only [w_ne, w_at, wl_ne, wl_at, wc_ne, wc_at, upd_at, upd_ne, upl_at, upl_ne, cpy_in0, zn_cl, zn_add, zn_mul, zn_sub, zn_pm, br_tt, br_ff, br_ltT, br_ltF, br_leT, br_leF, br_eqT, br_eqF, br_eqs, br_eqm, br_eqm', br_ltm, br_mlt, br_lem, br_mle, br_oiF, br_lgge, br_lgle, br_lggt, br_lglt, br_lgeq, br_zb, br_zb1, bV_s, bI_s, bL_s, zo_n, zo_s]
    have z4 : (am_w (am_w m.1 107 40 (zn w.length)) 107 41 (zn (s.length + 1)), m.2).1 129 s.length = zn x0 := by simp (disch := omega) only [w_ne, w_at, wl_ne, wl_at, wc_ne, wc_at, upd_at, upd_ne, upl_at, upl_ne, cpy_in0, zn_cl, zn_add, zn_mul, zn_sub, zn_pm, br_tt, br_ff, br_ltT, br_ltF, br_leT, br_leF, br_eqT, br_eqF, br_eqs, br_eqm, br_eqm', br_ltm, br_mlt, br_lem, br_mle, br_oiF, br_lgge, br_lgle, br_lggt, br_lglt, br_lgeq, br_zb, br_zb1, bV_s, bI_s, bL_s, zo_n, zo_s, hd]
    rw [z3, zn_sub (by omega), Nat.add_sub_cancel, br_oiF (by omega) (by omega), zn_cl (by omega), z4, bI_s, b1, bV_s]
  · rw [b5 40 (by omega)]; simp (disch := omega) only [w_ne, w_at, wl_ne, wl_at, wc_ne, wc_at, upd_at, upd_ne, upl_at, upl_ne, cpy_in0, zn_cl, zn_add, zn_mul, zn_sub, zn_pm, br_tt, br_ff, br_ltT, br_ltF, br_leT, br_leF, br_eqT, br_eqF, br_eqs, br_eqm, br_eqm', br_ltm, br_mlt, br_lem, br_mle, br_oiF, br_lgge, br_lgle, br_lggt, br_lglt, br_lgeq, br_zb, br_zb1, bV_s, bI_s, bL_s, zo_n, zo_s]
  · exact skR_w c.s.2 (fun i hi => by rw [b6]; simp (disch := omega) only [w_ne, w_at, wl_ne, wl_at, wc_ne, wc_at, upd_at, upd_ne, upl_at, upl_ne, cpy_in0, zn_cl, zn_add, zn_mul, zn_sub, zn_pm, br_tt, br_ff, br_ltT, br_ltF, br_leT, br_leF, br_eqT, br_eqF, br_eqs, br_eqm, br_eqm', br_ltm, br_mlt, br_lem, br_mle, br_oiF, br_lgge, br_lgle, br_lggt, br_lglt, br_lgeq, br_zb, br_zb1, bV_s, bI_s, bL_s, zo_n, zo_s])
  · rw [b5 42 (by omega)]; simp (disch := omega) only [w_ne, w_at, wl_ne, wl_at, wc_ne, wc_at, upd_at, upd_ne, upl_at, upl_ne, cpy_in0, zn_cl, zn_add, zn_mul, zn_sub, zn_pm, br_tt, br_ff, br_ltT, br_ltF, br_leT, br_leF, br_eqT, br_eqF, br_eqs, br_eqm, br_eqm', br_ltm, br_mlt, br_lem, br_mle, br_oiF, br_lgge, br_lgle, br_lggt, br_lglt, br_lgeq, br_zb, br_zb1, bV_s, bI_s, bL_s, zo_n, zo_s, c.o]; rw [pr_, if_neg (by omega)]; rfl
  · rw [b5 44 (by omega)]; simp (disch := omega) only [w_ne, w_at, wl_ne, wl_at, wc_ne, wc_at, upd_at, upd_ne, upl_at, upl_ne, cpy_in0, zn_cl, zn_add, zn_mul, zn_sub, zn_pm, br_tt, br_ff, br_ltT, br_ltF, br_leT, br_leF, br_eqT, br_eqF, br_eqs, br_eqm, br_eqm', br_ltm, br_mlt, br_lem, br_mle, br_oiF, br_lgge, br_lgle, br_lggt, br_lglt, br_lgeq, br_zb, br_zb1, bV_s, bI_s, bL_s, zo_n, zo_s, c.e]
  · rw [b5 45 (by omega)]; simp (disch := omega) only [w_ne, w_at, wl_ne, wl_at, wc_ne, wc_at, upd_at, upd_ne, upl_at, upl_ne, cpy_in0, zn_cl, zn_add, zn_mul, zn_sub, zn_pm, br_tt, br_ff, br_ltT, br_ltF, br_leT, br_leF, br_eqT, br_eqF, br_eqs, br_eqm, br_eqm', br_ltm, br_mlt, br_lem, br_mle, br_oiF, br_lgge, br_lgle, br_lggt, br_lglt, br_lgeq, br_zb, br_zb1, bV_s, bI_s, bL_s, zo_n, zo_s, c.n]
  · exact frR_tr (frR_w (c := 107) (j := 40) (x := zn w.length) (by unfold wokR; omega)) (frR_tr (frR_w (c := 107) (j := 41) (x := zn (s.length + 1)) (by unfold wokR; omega)) (frR_tr (frR_w (c := 107) (j := 41) (x := zn s.length) (by unfold wokR; omega)) b7))
/-- binding, both -/
theorem bnd {X : Nat → Nat} {n fr cn x dc dr : Nat} {T : Td} {fg : Nat → Bool} {t : Tk} {nt : Bool} (hx : 1 ≤ x) (hx6 : x ≤ 6) (hcn : cn ≤ 64) : ∀ (w s : List Nat) (G F : Td), eI fr G F cn w s false → gW G F →
    ∃ (w' s' : List Nat) (G' F' : Td), eI fr G' F' cn w' s' false ∧ gW G' F' ∧ (∀ a i, a ≠ 2 → F' a i = F a i) ∧ pr_ w' = pr_ w ∧ (w' = [] ∨ ∃ q v, w' = q :: v ∧ rk q < x)
      ∧ (∀ g m, w.length < g → pC X n T G F fg cn t m → eC w false nt m → ∃ m', r_Reader_putWaiting_0 (dc + 1) g (zn x) m = some (none, m') ∧ pC X n T G' F' fg cn t m' ∧ eC w' false nt m' ∧ frC m m')
      ∧ (∀ g m a b c, w.length < g → pR X n T G F fg cn t m → eR w s false nt m → ∃ m', r_M_bind_0 (dr + 1) g (zn x) a b c m = some (none, m') ∧ pR X n T G' F' fg cn t m' ∧ eR w' s' false nt m' ∧ frR m m') := by
  intro w
  induction w with
  | nil =>
    intro s G F I gw
    refine ⟨[], s, G, F, I, gw, fun _ _ _ => rfl, rfl, Or.inl rfl, fun g m hg h c => ?_, fun g m a b c' hg h c => ?_⟩
    · obtain ⟨g, rfl⟩ : ∃ k, g = k + 1 := ⟨g - 1, by omega⟩
      exact ⟨m, by rw [e_Reader_putWaiting_0, c.l, br_leT (by show 0 ≤ 0; omega) (by omega)], h, c, frC_refl m⟩
    · obtain ⟨g, rfl⟩ : ∃ k, g = k + 1 := ⟨g - 1, by omega⟩
      exact ⟨m, by rw [e_M_bind_0, c.l, br_leT (by show 0 ≤ 0; omega) (by omega)], h, c, frR_refl m⟩
  | cons q w ih =>
    intro s G F I gw
    have hq := I.wk q (List.mem_cons_self ..)
    have wk' : wok w := fun z hz => I.wk z (List.mem_cons_of_mem _ hz)
    have hlen := len_pn w
    have hbn := bi_nb w
    have io8 := I.o8
    have icn := I.cn
    have isl := I.sl
    have ifk := I.fk
    rw [pr_] at io8
    rw [nb_] at icn
    rw [bi_] at isl
    have b1 : b01 false = 1 := rfl
    rw [b1] at isl
    have r6 := rk_le q
    have hif : (if q = 0 then 1 else 0) + (if q = 0 then 0 else 1) = 1 := by split <;> rfl
    by_cases g0 : rk q < x
    · refine ⟨q :: w, s, G, F, I, gw, fun _ _ _ => rfl, rfl, Or.inr ⟨q, w, rfl, g0⟩, fun g m hg h c => ?_, fun g m a b c' hg h c => ?_⟩
      · obtain ⟨g, rfl⟩ : ∃ k, g = k + 1 := ⟨g - 1, by omega⟩
        have hl : m.1 1 3 = zn (w.length + 1) := c.l
        exact ⟨m, by rw [e_Reader_putWaiting_0, hl, br_leF (by omega) (by omega), zn_sub (by omega), Nat.add_sub_cancel, br_oiF (by omega) (by omega), zn_cl (by omega), c.s.1, s_strg, strg_q q (by omega) (by omega), bI_s, br_ltT g0 (by omega)], h, c, frC_refl m⟩
      · obtain ⟨g, rfl⟩ : ∃ k, g = k + 1 := ⟨g - 1, by omega⟩
        have hl : m.1 107 40 = zn (w.length + 1) := c.l
        exact ⟨m, by rw [e_M_bind_0, hl, br_leF (by omega) (by omega), zn_sub (by omega), Nat.add_sub_cancel, br_oiF (by omega) (by omega), zn_cl (by omega), c.s.1, s_rank (by omega), bI_s, br_ltT g0 (by omega)], h, c, frR_refl m⟩
    · have q2 : 2 ≤ q ∧ q ≤ 14 := by
        rcases hq with e | e
        · subst e; exact absurd (show rk 0 < x from Nat.lt_of_lt_of_le (show 0 < 1 by omega) hx) g0
        · exact e
      rw [if_neg (by omega)] at io8 icn
      have hk : F 2 0 < 64 := by omega
      by_cases e2 : q = 2
      · subst e2
        rw [if_pos (by omega)] at isl
        obtain ⟨x0, s1, rfl⟩ : ∃ x0 s1, s = x0 :: s1 := by
          cases s with
          | nil => simp at isl
          | cons a b => exact ⟨a, b, rfl⟩
        rw [List.length_cons] at isl
        have I' : eI fr (Gk G (F 2 0) 2 x0 0) (Fk F) cn w (F 2 0 :: s1) false := ⟨wk', by omega, by rw [Fk_20]; omega, by rw [List.length_cons, b1]; omega, by rw [Fk_20]; omega, Or.inr ⟨by rw [Fk_20]; omega, s1, by rw [Fk_20, Nat.add_sub_cancel]⟩, by rw [Fk_20]; exact rI_not I.ri I.fk⟩
        obtain ⟨w', s', G', F', j1, j2, j3, j4, j5, j6, j7⟩ := ih (F 2 0 :: s1) (Gk G (F 2 0) 2 x0 0) (Fk F) I' (gW_k gw hk)
        refine ⟨w', s', G', F', j1, j2, fun a i ha => by rw [j3 a i ha, Fk_ne ha], by rw [j4]; rfl, j5, fun g m hg h c => ?_, fun g m a b c' hg h c => ?_⟩
        · rw [List.length_cons] at hg
          obtain ⟨g, rfl⟩ : ∃ k, g = k + 1 := ⟨g - 1, by omega⟩
          obtain ⟨m1, c1, c2, c3, c4⟩ := put_C (d := dc) (g := g) (p := x0) (p2 := 0) (x := x) h c hk (by omega) (by omega) (by omega) (by omega)
          obtain ⟨m2, d1, d2, d3, d4⟩ := j6 g m1 (by omega) c2 c3
          exact ⟨m2, by rw [c1, d1], d2, d3, frC_tr c4 d4⟩
        · rw [List.length_cons] at hg
          obtain ⟨g, rfl⟩ : ∃ k, g = k + 1 := ⟨g - 1, by omega⟩
          obtain ⟨m1, a1, b1', c1', c1, c2, c3, c4⟩ := put_R2 (d := dr) (g := g) (x := x) (a := a) (b := b) (c' := c') h c hk (by have : rk 2 = 3 := rfl; omega) (by omega) (by omega)
          obtain ⟨m2, d1, d2, d3, d4⟩ := j7 g m1 a1 b1' c1' (by omega) c2 c3
          exact ⟨m2, by rw [c1, d1], d2, d3, frR_tr c4 d4⟩
      · rw [if_neg (by omega)] at isl
        obtain ⟨y0, x0, s1, rfl⟩ : ∃ y0 x0 s1, s = y0 :: x0 :: s1 := by
          cases s with
          | nil => simp at isl
          | cons a b =>
            cases b with
            | nil => simp at isl
            | cons b c => exact ⟨a, b, c, rfl⟩
        rw [List.length_cons, List.length_cons] at isl
        have I' : eI fr (Gk G (F 2 0) q x0 y0) (Fk F) cn w (F 2 0 :: s1) false := ⟨wk', by omega, by rw [Fk_20]; omega, by rw [List.length_cons, b1]; omega, by rw [Fk_20]; omega, Or.inr ⟨by rw [Fk_20]; omega, s1, by rw [Fk_20, Nat.add_sub_cancel]⟩, by rw [Fk_20]; exact rI_bin I.ri I.fk (by omega) (by omega)⟩
        obtain ⟨w', s', G', F', j1, j2, j3, j4, j5, j6, j7⟩ := ih (F 2 0 :: s1) (Gk G (F 2 0) q x0 y0) (Fk F) I' (gW_k gw hk)
        refine ⟨w', s', G', F', j1, j2, fun a i ha => by rw [j3 a i ha, Fk_ne ha], by rw [j4, pr_, if_neg (by omega)]; rfl, j5, fun g m hg h c => ?_, fun g m a b c' hg h c => ?_⟩
        · rw [List.length_cons] at hg
          obtain ⟨g, rfl⟩ : ∃ k, g = k + 1 := ⟨g - 1, by omega⟩
          obtain ⟨m1, c1, c2, c3, c4⟩ := put_C (d := dc) (g := g) (p := x0) (p2 := y0) (x := x) h c hk (by omega) (by omega) (by omega) (by omega)
          obtain ⟨m2, d1, d2, d3, d4⟩ := j6 g m1 (by omega) c2 c3
          exact ⟨m2, by rw [c1, d1], d2, d3, frC_tr c4 d4⟩
        · rw [List.length_cons] at hg
          obtain ⟨g, rfl⟩ : ∃ k, g = k + 1 := ⟨g - 1, by omega⟩
          obtain ⟨m1, a1, b1', c1', c1, c2, c3, c4⟩ := put_R3 (d := dr) (g := g) (x := x) (a := a) (b := b) (c' := c') h c hk (by omega) (by omega) (by omega) (by omega) (by omega)
          obtain ⟨m2, d1, d2, d3, d4⟩ := j7 g m1 a1 b1' c1' (by omega) c2 c3
          exact ⟨m2, by rw [c1, d1], d2, d3, frR_tr c4 d4⟩
