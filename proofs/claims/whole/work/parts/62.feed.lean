/-! a byte of a word -/
theorem b255 : ∀ i : Fin 8, (255#32)[i.val]'(by omega) = true := by decide
theorem by_and (v : Int32) : (v &&& 255).toInt8 = v.toInt8 := by
  apply Int8.toBitVec_inj.mp
  show (v.toBitVec &&& 255#32).signExtend 8 = v.toBitVec.signExtend 8
  ext i h
  have h32 : i < 32 := by omega
  simp only [BitVec.getElem_signExtend, BitVec.getElem_and, h32, dite_true]
  rw [b255 ⟨i, h⟩, Bool.and_true]
theorem by_lt (v : Int32) : ∃ x : Nat, x < 256 ∧ v &&& 255 = zn x := by
  refine ⟨(v.toBitVec &&& 255#32).toNat, ?_, ?_⟩
  · rw [BitVec.toNat_and]; exact Nat.lt_of_le_of_lt Nat.and_le_right (by decide)
  · apply Int32.toBitVec_inj.mp
    show v.toBitVec &&& 255#32 = (zn (v.toBitVec &&& 255#32).toNat).toBitVec
    apply BitVec.eq_of_toNat_eq
    unfold zn
    simp
theorem by_x (v : Int32) : ∃ x : Nat, x < 256 ∧ v &&& zn 255 = zn x ∧ vp_nar .byte v.toInt8.toInt32 = (zn x).toInt8.toInt32 := by
  obtain ⟨x, h1, h2⟩ := by_lt v
  refine ⟨x, h1, h2, ?_⟩
  rw [← h2, by_and]
  show (v.toInt8.toInt32).toInt8.toInt32 = _
  rw [Int8.toInt8_toInt32]
theorem put_1 {d t s f : Nat} {v : Int32} {m : am_M} (ht : t < 700) (hs : s ≤ 24) (h : m.1 0 2 = zn t) : r_C_putOnTape_3 d (f + 1) v (zn s) m = r_C_putOnTape_3 d f v (zn s + (-8)) (am_w (am_w m.1 3 t (vp_nar .byte (v >>> (zn s &&& 31)).toInt8.toInt32)) 0 2 (zn (t + 1)), m.2) := by
  rw [e_C_putOnTape_3, h]; simp (disch := omega) only [w_ne, w_at, wl_ne, wl_at, wc_ne, wc_at, upd_at, upd_ne, upl_at, upl_ne, cpy_in0, zn_cl, zn_add, zn_mul, zn_sub, zn_pm, br_tt, br_ff, br_ltT, br_ltF, br_leT, br_leF, br_eqT, br_eqF, br_eqs, br_eqm, br_eqm', br_ltm, br_mlt, br_lem, br_mle, br_oiF, br_lgge, br_lgle, br_lggt, br_lglt, br_lgeq, br_zb, br_zb1, bV_s, bI_s, bL_s, zo_n, zo_s]
theorem put_4 {d f : Nat} {v : Int32} {m : am_M} : r_C_putOnTape_3 d (f + 1) v (zn 0 + (-8)) m = some (none, m) := by
  rw [e_C_putOnTape_3, br_lt, if_pos (by decide)]
def bt (v : Int32) (i : Nat) : Int32 := v >>> (zn (24 - 8 * i) &&& 31)
theorem s_put4 {d t : Nat} {v : Int32} {m : am_M} (ht : t + 4 ≤ 700) (h : m.1 0 2 = zn t) : ∃ m', am_c (d + 1) y_C_putOnTape [.ref 0, .int v] m = some (none, m') ∧ m'.2 = m.2 ∧ (∀ c, c ≠ 0 → c ≠ 3 → m'.1 c = m.1 c) ∧ (∀ i, i ≠ 2 → m'.1 0 i = m.1 0 i) ∧ m'.1 0 2 = zn (t + 4) ∧ (∀ j, j < t → m'.1 3 j = m.1 3 j) ∧ ∀ i, i < 4 → m'.1 3 (t + i) = vp_nar .byte (bt v i).toInt8.toInt32 := by
  refine ⟨(am_w (am_w (am_w (am_w (am_w (am_w (am_w (am_w m.1 3 t (vp_nar .byte (bt v 0).toInt8.toInt32)) 0 2 (zn (t + 1))) 3 (t + 1) (vp_nar .byte (bt v 1).toInt8.toInt32)) 0 2 (zn (t + 2))) 3 (t + 2) (vp_nar .byte (bt v 2).toInt8.toInt32)) 0 2 (zn (t + 3))) 3 (t + 3) (vp_nar .byte (bt v 3).toInt8.toInt32)) 0 2 (zn (t + 4)), m.2), ?_, rfl, fun c c1 c2 => by simp (disch := omega) only [w_ne, w_at, wl_ne, wl_at, wc_ne, wc_at, upd_at, upd_ne, upl_at, upl_ne, cpy_in0, zn_cl, zn_add, zn_mul, zn_sub, zn_pm, br_tt, br_ff, br_ltT, br_ltF, br_leT, br_leF, br_eqT, br_eqF, br_eqs, br_eqm, br_eqm', br_ltm, br_mlt, br_lem, br_mle, br_oiF, br_lgge, br_lgle, br_lggt, br_lglt, br_lgeq, br_zb, br_zb1, bV_s, bI_s, bL_s, zo_n, zo_s], fun i hi => by simp (disch := omega) only [w_ne, w_at, wl_ne, wl_at, wc_ne, wc_at, upd_at, upd_ne, upl_at, upl_ne, cpy_in0, zn_cl, zn_add, zn_mul, zn_sub, zn_pm, br_tt, br_ff, br_ltT, br_ltF, br_leT, br_leF, br_eqT, br_eqF, br_eqs, br_eqm, br_eqm', br_ltm, br_mlt, br_lem, br_mle, br_oiF, br_lgge, br_lgle, br_lggt, br_lglt, br_lgeq, br_zb, br_zb1, bV_s, bI_s, bL_s, zo_n, zo_s], by simp (disch := omega) only [w_ne, w_at, wl_ne, wl_at, wc_ne, wc_at, upd_at, upd_ne, upl_at, upl_ne, cpy_in0, zn_cl, zn_add, zn_mul, zn_sub, zn_pm, br_tt, br_ff, br_ltT, br_ltF, br_leT, br_leF, br_eqT, br_eqF, br_eqs, br_eqm, br_eqm', br_ltm, br_mlt, br_lem, br_mle, br_oiF, br_lgge, br_lgle, br_lggt, br_lglt, br_lgeq, br_zb, br_zb1, bV_s, bI_s, bL_s, zo_n, zo_s], fun j hj => by simp (disch := omega) only [w_ne, w_at, wl_ne, wl_at, wc_ne, wc_at, upd_at, upd_ne, upl_at, upl_ne, cpy_in0, zn_cl, zn_add, zn_mul, zn_sub, zn_pm, br_tt, br_ff, br_ltT, br_ltF, br_leT, br_leF, br_eqT, br_eqF, br_eqs, br_eqm, br_eqm', br_ltm, br_mlt, br_lem, br_mle, br_oiF, br_lgge, br_lgle, br_lggt, br_lglt, br_lgeq, br_zb, br_zb1, bV_s, bI_s, bL_s, zo_n, zo_s], fun i hi => ?_⟩
  · rw [n_C_putOnTape, put_1 (f := 29998) (t := t) (by omega) (by omega) h, show zn 24 + (-8) = zn 16 from rfl, put_1 (f := 29997) (t := t + 1) (by omega) (by omega) (by simp (disch := omega) only [w_ne, w_at, wl_ne, wl_at, wc_ne, wc_at, upd_at, upd_ne, upl_at, upl_ne, cpy_in0, zn_cl, zn_add, zn_mul, zn_sub, zn_pm, br_tt, br_ff, br_ltT, br_ltF, br_leT, br_leF, br_eqT, br_eqF, br_eqs, br_eqm, br_eqm', br_ltm, br_mlt, br_lem, br_mle, br_oiF, br_lgge, br_lgle, br_lggt, br_lglt, br_lgeq, br_zb, br_zb1, bV_s, bI_s, bL_s, zo_n, zo_s]), show zn 16 + (-8) = zn 8 from rfl, put_1 (f := 29996) (t := t + 2) (by omega) (by omega) (by simp (disch := omega) only [w_ne, w_at, wl_ne, wl_at, wc_ne, wc_at, upd_at, upd_ne, upl_at, upl_ne, cpy_in0, zn_cl, zn_add, zn_mul, zn_sub, zn_pm, br_tt, br_ff, br_ltT, br_ltF, br_leT, br_leF, br_eqT, br_eqF, br_eqs, br_eqm, br_eqm', br_ltm, br_mlt, br_lem, br_mle, br_oiF, br_lgge, br_lgle, br_lggt, br_lglt, br_lgeq, br_zb, br_zb1, bV_s, bI_s, bL_s, zo_n, zo_s]), show zn 8 + (-8) = zn 0 from rfl, put_1 (f := 29995) (t := t + 3) (by omega) (by omega) (by simp (disch := omega) only [w_ne, w_at, wl_ne, wl_at, wc_ne, wc_at, upd_at, upd_ne, upl_at, upl_ne, cpy_in0, zn_cl, zn_add, zn_mul, zn_sub, zn_pm, br_tt, br_ff, br_ltT, br_ltF, br_leT, br_leF, br_eqT, br_eqF, br_eqs, br_eqm, br_eqm', br_ltm, br_mlt, br_lem, br_mle, br_oiF, br_lgge, br_lgle, br_lggt, br_lglt, br_lgeq, br_zb, br_zb1, bV_s, bI_s, bL_s, zo_n, zo_s]), put_4 (f := 29994)]
    rfl
  · rcases (by omega : i = 0 ∨ i = 1 ∨ i = 2 ∨ i = 3) with e | e | e | e <;> subst e <;> simp (disch := omega) only [w_ne, w_at, wl_ne, wl_at, wc_ne, wc_at, upd_at, upd_ne, upl_at, upl_ne, cpy_in0, zn_cl, zn_add, zn_mul, zn_sub, zn_pm, br_tt, br_ff, br_ltT, br_ltF, br_leT, br_leF, br_eqT, br_eqF, br_eqs, br_eqm, br_eqm', br_ltm, br_mlt, br_lem, br_mle, br_oiF, br_lgge, br_lgle, br_lggt, br_lglt, br_lgeq, br_zb, br_zb1, bV_s, bI_s, bL_s, zo_n, zo_s, Nat.add_zero]
