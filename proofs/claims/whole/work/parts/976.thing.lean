/-! thing: what the class reads, what the reference says (the class itself may throw: by hand, in the law) -/
def thc (k : Nat) : Nat := if k = 0 then 29 else if k = 1 then 72 else if k = 2 then 30 else if k = 3 then 31 else if k = 4 then 33 else 34
theorem k_thing (x y : Int32) {m : am_M} (I : Inv m) :
    (∃ m2, am_c 7 y_C_isThing [.ref 0, .int x] m = some (some (.int (zn 0)), m) ∧ am_c 8 y_M_thing [.ref 107, .int x, .int y] m = some (some (.int (zn 0)), m2) ∧ m2.1 107 2 = zn 1 ∧ Inv m2)
    ∨ (∃ t k m2, t < 5 ∧ x = zn t ∧ k < 6 ∧ y = zn k ∧ am_c 7 y_C_isThing [.ref 0, .int x] m = some (some (.int (zn 1)), m) ∧ am_c 8 y_M_thing [.ref 107, .int x, .int y] m = some (some (.int (m.1 (thc k) t)), m2) ∧ m2.1 107 2 = zn 0 ∧ Inv m2)
    ∨ (∃ t m2, t < 5 ∧ x = zn t ∧ (∀ k, k < 6 → y ≠ zn k) ∧ am_c 7 y_C_isThing [.ref 0, .int x] m = some (some (.int (zn 1)), m) ∧ am_c 8 y_M_thing [.ref 107, .int x, .int y] m = some (some (.int (zn 0)), m2) ∧ m2.1 107 2 = zn 2 ∧ Inv m2) := by
  obtain ⟨T, G, F, q, w, day, num, c, r⟩ := I
  have hn := c.tw.n
  have c2 := c.qR (fqR_th m (zn 0))
  have i1 := s_isThingC c.tc c.tw (d := 6) (x := x)
  have i2 := s_isThingR c2.tr c.tw (d := 6) (x := x)
  have Ik : ∀ z, Inv (am_w m.1 107 2 z, m.2) := fun z => ⟨T, G, F, q, w, day, num, c.qR (fqR_th m z), r.qR (fqR_th m z)⟩
  have ww : ∀ z : Int32, ((am_w (am_w m.1 107 2 (zn 0)) 107 2 z, m.2) : am_M) = (am_w m.1 107 2 z, m.2) := fun z => by
    have : am_w (am_w m.1 107 2 (zn 0)) 107 2 z = am_w m.1 107 2 z := by
      funext a b
      by_cases e : a = 107
      · subst e; rw [w_at, w_at, w_at]
        by_cases e1 : b = 2
        · subst e1; rw [upd_at, upd_at]
        · rw [upd_ne e1, upd_ne e1, upd_ne e1]
      · rw [w_ne e, w_ne e, w_ne e]
    rw [this]
  cases e : isN (T 0 0) x with
  | false =>
    refine Or.inl ⟨(am_w m.1 107 2 (zn 1), m.2), by rw [i1, e]; rfl, ?_, by simp (disch := omega) only [w_ne, w_at, wl_ne, wl_at, wc_ne, wc_at, upd_at, upd_ne, upl_at, upl_ne, cpy_in0, zn_cl, zn_add, zn_mul, zn_sub, zn_pm, br_tt, br_ff, br_ltT, br_ltF, br_leT, br_leF, br_eqT, br_eqF, br_eqs, br_eqm, br_eqm', br_ltm, br_mlt, br_lem, br_mle, br_oiF, br_lgge, br_lgle, br_lggt, br_lglt, br_lgeq, br_zb, br_zb1, bV_s, bI_s, bL_s, zo_n, zo_s], Ik _⟩
    rw [n_M_thing, i2, e, bI_s, br_zb, if_neg (by simp), n_M_fails, bI_s, ww]
  | true =>
    obtain ⟨t, ht, rfl⟩ := isN_t e
    have pre : am_c 8 y_M_thing [.ref 107, .int (zn t), .int y] m = (am_b (am_eq y (zn 0)) (some (some (.int (m.1 113 t)), (am_w m.1 107 2 (zn 0), m.2))) (am_b (am_eq y (zn 1)) (some (some (.int (m.1 132 t)), (am_w m.1 107 2 (zn 0), m.2))) (am_b (am_eq y (zn 2)) (some (some (.int (m.1 114 t)), (am_w m.1 107 2 (zn 0), m.2))) (am_b (am_eq y (zn 3)) (some (some (.int (m.1 115 t)), (am_w m.1 107 2 (zn 0), m.2))) (am_b (am_eq y (zn 4)) (some (some (.int (m.1 116 t)), (am_w m.1 107 2 (zn 0), m.2))) (am_b (am_eq y (zn 5)) (some (some (.int (m.1 117 t)), (am_w m.1 107 2 (zn 0), m.2))) (some (some (.int (zn 0)), (am_w m.1 107 2 (zn 2), m.2))))))))) := by
      rw [n_M_thing, i2, e, bI_s, br_zb, if_pos rfl, n_M_fails, bI_s, ww]
      have z : ∀ (a b : am_R), am_b (am_oi (zn t) 10) a b = b := fun a b => br_oiF (by omega) (by omega)
      simp only [z, zn_cl (show t < 2147483648 by omega)]
      simp (disch := omega) only [w_ne, w_at, wl_ne, wl_at, wc_ne, wc_at, upd_at, upd_ne, upl_at, upl_ne, cpy_in0, zn_cl, zn_add, zn_mul, zn_sub, zn_pm, br_tt, br_ff, br_ltT, br_ltF, br_leT, br_leF, br_eqT, br_eqF, br_eqs, br_eqm, br_eqm', br_ltm, br_mlt, br_lem, br_mle, br_oiF, br_lgge, br_lgle, br_lggt, br_lglt, br_lgeq, br_zb, br_zb1, bV_s, bI_s, bL_s, zo_n, zo_s]
    by_cases g : ∃ k, k < 6 ∧ y = zn k
    · obtain ⟨k, hk, rfl⟩ := g
      refine Or.inr (Or.inl ⟨t, k, (am_w m.1 107 2 (zn 0), m.2), by omega, rfl, hk, rfl, by rw [i1, e]; rfl, ?_, by simp (disch := omega) only [w_ne, w_at, wl_ne, wl_at, wc_ne, wc_at, upd_at, upd_ne, upl_at, upl_ne, cpy_in0, zn_cl, zn_add, zn_mul, zn_sub, zn_pm, br_tt, br_ff, br_ltT, br_ltF, br_leT, br_leF, br_eqT, br_eqF, br_eqs, br_eqm, br_eqm', br_ltm, br_mlt, br_lem, br_mle, br_oiF, br_lgge, br_lgle, br_lggt, br_lglt, br_lgeq, br_zb, br_zb1, bV_s, bI_s, bL_s, zo_n, zo_s], Ik _⟩)
      rw [pre]
      rcases (by omega : k = 0 ∨ k = 1 ∨ k = 2 ∨ k = 3 ∨ k = 4 ∨ k = 5) with q1 | q1 | q1 | q1 | q1 | q1 <;> subst q1
      · rw [br_eqT rfl, c.tr.pl t ht]; show _ = some (some (Value.int (m.1 29 t)), _); rw [c.tc.pl t ht]
      · rw [br_eqF (by omega) (by omega) (by omega), br_eqT rfl, c.nr.hs t ht]; show _ = some (some (Value.int (m.1 72 t)), _); rw [c.sc.hs t ht]
      · rw [br_eqF (by omega) (by omega) (by omega), br_eqF (by omega) (by omega) (by omega), br_eqT rfl, c.tr.sz t ht]; show _ = some (some (Value.int (m.1 30 t)), _); rw [c.tc.sz t ht]
      · rw [br_eqF (by omega) (by omega) (by omega), br_eqF (by omega) (by omega) (by omega), br_eqF (by omega) (by omega) (by omega), br_eqT rfl, c.tr.sh t ht]; show _ = some (some (Value.int (m.1 31 t)), _); rw [c.tc.sh t ht]
      · rw [br_eqF (by omega) (by omega) (by omega), br_eqF (by omega) (by omega) (by omega), br_eqF (by omega) (by omega) (by omega), br_eqF (by omega) (by omega) (by omega), br_eqT rfl, c.tr.cm t ht]; show _ = some (some (Value.int (m.1 33 t)), _); rw [c.tc.cm t ht]
      · rw [br_eqF (by omega) (by omega) (by omega), br_eqF (by omega) (by omega) (by omega), br_eqF (by omega) (by omega) (by omega), br_eqF (by omega) (by omega) (by omega), br_eqF (by omega) (by omega) (by omega), br_eqT rfl, c.tr.hw t ht]; show _ = some (some (Value.int (m.1 34 t)), _); rw [c.tc.hw t ht]
    · have g' : ∀ k, k < 6 → y ≠ zn k := fun k hk z => g ⟨k, hk, z⟩
      refine Or.inr (Or.inr ⟨t, (am_w m.1 107 2 (zn 2), m.2), by omega, rfl, g', by rw [i1, e]; rfl, ?_, by simp (disch := omega) only [w_ne, w_at, wl_ne, wl_at, wc_ne, wc_at, upd_at, upd_ne, upl_at, upl_ne, cpy_in0, zn_cl, zn_add, zn_mul, zn_sub, zn_pm, br_tt, br_ff, br_ltT, br_ltF, br_leT, br_leF, br_eqT, br_eqF, br_eqs, br_eqm, br_eqm', br_ltm, br_mlt, br_lem, br_mle, br_oiF, br_lgge, br_lgle, br_lggt, br_lglt, br_lgeq, br_zb, br_zb1, bV_s, bI_s, bL_s, zo_n, zo_s], Ik _⟩)
      rw [pre, br_eq, if_neg (g' 0 (by omega)), br_eq, if_neg (g' 1 (by omega)), br_eq, if_neg (g' 2 (by omega)), br_eq, if_neg (g' 3 (by omega)), br_eq, if_neg (g' 4 (by omega)), br_eq, if_neg (g' 5 (by omega))]
