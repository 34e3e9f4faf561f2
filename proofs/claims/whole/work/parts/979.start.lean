/-! the start -/
theorem start_inv {m : am_M} (hf : ∀ x, x ∈ ax_fs → m.1 x.1 x.2.1 = x.2.2) (hw : ax_wchk m = true) : ∃ m1 m2, am_c 8 y_M_plain [.ref 107] m = some (none, m1) ∧ am_c 7 y_M_keepText [.ref 107] m1 = some (none, m2) ∧ Inv m2 := by
  have f : ∀ c i v, (c, i, v) ∈ ax_fs → m.1 c i = v := fun c i v h => hf (c, i, v) h
  unfold ax_wchk at hw
  rw [Bool.and_eq_true, Bool.and_eq_true, List.all_eq_true, List.all_eq_true, List.all_eq_true] at hw
  obtain ⟨⟨hw1, hw2⟩, hw3⟩ := hw
  have wa : ∀ i, i < 25 → m.1 4 i = zn (cwd.getD i 0) := fun i hi => of_decide_eq_true (hw1 i (List.mem_range.mpr hi))
  have wb : ∀ i, i < 121 → m.1 109 i = zn (rwd.getD i 0) := fun i hi => of_decide_eq_true (hw2 i (List.mem_range.mpr hi))
  have wc : ∀ i, i < 5 → m.1 47 i = m.1 33 i ∧ m.1 48 i = m.1 34 i ∧ m.1 49 i = m.1 36 i := fun i hi => by
    have := hw3 i (List.mem_range.mpr hi)
    rw [Bool.and_eq_true, Bool.and_eq_true] at this
    exact ⟨of_decide_eq_true this.1.1, of_decide_eq_true this.1.2, of_decide_eq_true this.2⟩
  let m1 : am_M := (am_w (am_w (am_w (am_w (am_w (am_w (am_w (am_w (am_w (am_w (am_w (am_w (am_w (am_w m.1 107 16 (zn 0)) 107 17 (zn 0)) 107 18 (zn 0)) 107 19 (zn 0)) 107 43 (zn 0)) 110 0 (zn 0)) 111 3 (zn 0)) 122 3 (zn 0)) 110 1 (zn 0)) 111 4 (zn 0)) 122 4 (zn 0)) 110 2 (zn 0)) 111 5 (zn 0)) 122 5 (zn 0), m.2)
  have a1 : am_c 8 y_M_plain [.ref 107] m = some (none, m1) := by
    rw [n_M_plain, e_M_plain_27 7 29998, br_leF (by omega) (by omega), br_oiF (by omega) (by omega), zn_add, br_oiF (by omega) (by omega), br_oiF (by omega) (by omega), zn_cl (by omega), zn_cl (by omega), nar_0, zn_add, e_M_plain_27 7 29997, br_leF (by omega) (by omega), br_oiF (by omega) (by omega), zn_add, br_oiF (by omega) (by omega), br_oiF (by omega) (by omega), zn_cl (by omega), zn_cl (by omega), nar_0, zn_add, e_M_plain_27 7 29996, br_leF (by omega) (by omega), br_oiF (by omega) (by omega), zn_add, br_oiF (by omega) (by omega), br_oiF (by omega) (by omega), zn_cl (by omega), zn_cl (by omega), nar_0, zn_add, e_M_plain_27 7 29995, br_leT (by omega) (by omega)]
  have W0 := (pW_0 (X := fun _ => 0) (n := 0) (by omega)).tw
  have g0 := (pW_0 (X := fun _ => 0) (n := 0) (by omega)).gw
  have e7 : ∀ i, i < 16 → m1.1 107 i = m.1 107 i := fun i hi => by simp only [m1]; simp (disch := omega) only [w_ne, w_at, wl_ne, wl_at, wc_ne, wc_at, upd_at, upd_ne, upl_at, upl_ne, cpy_in0, zn_cl, zn_add, zn_mul, zn_sub, zn_pm, br_tt, br_ff, br_ltT, br_ltF, br_leT, br_leF, br_eqT, br_eqF, br_eqs, br_eqm, br_eqm', br_ltm, br_mlt, br_lem, br_mle, br_oiF, br_lgge, br_lgle, br_lggt, br_lglt, br_lgeq, br_zb, br_zb1, bV_s, bI_s, bL_s, zo_n, zo_s]
  have ec : ∀ c, c ≠ 107 → c ≠ 110 → c ≠ 111 → c ≠ 122 → m1.1 c = m.1 c := fun c x1 x2 x3 x4 => by simp only [m1]; simp (disch := omega) only [w_ne, w_at, wl_ne, wl_at, wc_ne, wc_at, upd_at, upd_ne, upl_at, upl_ne, cpy_in0, zn_cl, zn_add, zn_mul, zn_sub, zn_pm, br_tt, br_ff, br_ltT, br_ltF, br_leT, br_leF, br_eqT, br_eqF, br_eqs, br_eqm, br_eqm', br_ltm, br_mlt, br_lem, br_mle, br_oiF, br_lgge, br_lgle, br_lggt, br_lglt, br_lgeq, br_zb, br_zb1, bV_s, bI_s, bL_s, zo_n, zo_s]
  have P : pR (fun _ => 0) 0 Z0 Z0 Z0 (fun _ => false) 0 (40, 0, 0, 0) m1 := by
    refine ⟨⟨by omega, fun i hi => absurd hi (Nat.not_lt_zero i), by rw [e7 6 (by omega)]; exact f 107 6 (zn 0) (by simp [ax_fs]), fun i hi => absurd hi (Nat.not_lt_zero i), by rw [ec 109 (by omega) (by omega) (by omega) (by omega)]; exact wb⟩, ⟨by rw [e7 7 (by omega)]; exact f 107 7 (zn 0) (by simp [ax_fs]), by rw [e7 10 (by omega)]; exact f 107 10 (zn 0) (by simp [ax_fs]), Or.inr (Or.inr (Or.inr (Or.inr (Or.inr (Or.inl ⟨rfl, by rw [e7 8 (by omega)]; exact f 107 8 (zn 0) (by simp [ax_fs])⟩)))))⟩, by simp only [m1]; simp (disch := omega) only [w_ne, w_at, wl_ne, wl_at, wc_ne, wc_at, upd_at, upd_ne, upl_at, upl_ne, cpy_in0, zn_cl, zn_add, zn_mul, zn_sub, zn_pm, br_tt, br_ff, br_ltT, br_ltF, br_leT, br_leF, br_eqT, br_eqF, br_eqs, br_eqm, br_eqm', br_ltm, br_mlt, br_lem, br_mle, br_oiF, br_lgge, br_lgle, br_lggt, br_lglt, br_lgeq, br_zb, br_zb1, bV_s, bI_s, bL_s, zo_n, zo_s]; rfl, by simp only [m1]; simp (disch := omega) only [w_ne, w_at, wl_ne, wl_at, wc_ne, wc_at, upd_at, upd_ne, upl_at, upl_ne, cpy_in0, zn_cl, zn_add, zn_mul, zn_sub, zn_pm, br_tt, br_ff, br_ltT, br_ltF, br_leT, br_leF, br_eqT, br_eqF, br_eqs, br_eqm, br_eqm', br_ltm, br_mlt, br_lem, br_mle, br_oiF, br_lgge, br_lgle, br_lggt, br_lglt, br_lgeq, br_zb, br_zb1, bV_s, bI_s, bL_s, zo_n, zo_s]; rfl, by simp only [m1]; simp (disch := omega) only [w_ne, w_at, wl_ne, wl_at, wc_ne, wc_at, upd_at, upd_ne, upl_at, upl_ne, cpy_in0, zn_cl, zn_add, zn_mul, zn_sub, zn_pm, br_tt, br_ff, br_ltT, br_ltF, br_leT, br_leF, br_eqT, br_eqF, br_eqs, br_eqm, br_eqm', br_ltm, br_mlt, br_lem, br_mle, br_oiF, br_lgge, br_lgle, br_lggt, br_lglt, br_lgeq, br_zb, br_zb1, bV_s, bI_s, bL_s, zo_n, zo_s]; rfl, by simp only [m1]; simp (disch := omega) only [w_ne, w_at, wl_ne, wl_at, wc_ne, wc_at, upd_at, upd_ne, upl_at, upl_ne, cpy_in0, zn_cl, zn_add, zn_mul, zn_sub, zn_pm, br_tt, br_ff, br_ltT, br_ltF, br_leT, br_leF, br_eqT, br_eqF, br_eqs, br_eqm, br_eqm', br_ltm, br_mlt, br_lem, br_mle, br_oiF, br_lgge, br_lgle, br_lggt, br_lglt, br_lgeq, br_zb, br_zb1, bV_s, bI_s, bL_s, zo_n, zo_s]; rfl, by simp only [m1]; simp (disch := omega) only [w_ne, w_at, wl_ne, wl_at, wc_ne, wc_at, upd_at, upd_ne, upl_at, upl_ne, cpy_in0, zn_cl, zn_add, zn_mul, zn_sub, zn_pm, br_tt, br_ff, br_ltT, br_ltF, br_leT, br_leF, br_eqT, br_eqF, br_eqs, br_eqm, br_eqm', br_ltm, br_mlt, br_lem, br_mle, br_oiF, br_lgge, br_lgle, br_lggt, br_lglt, br_lgeq, br_zb, br_zb1, bV_s, bI_s, bL_s, zo_n, zo_s]; rfl, by simp only [m1]; simp (disch := omega) only [w_ne, w_at, wl_ne, wl_at, wc_ne, wc_at, upd_at, upd_ne, upl_at, upl_ne, cpy_in0, zn_cl, zn_add, zn_mul, zn_sub, zn_pm, br_tt, br_ff, br_ltT, br_ltF, br_leT, br_leF, br_eqT, br_eqF, br_eqs, br_eqm, br_eqm', br_ltm, br_mlt, br_lem, br_mle, br_oiF, br_lgge, br_lgle, br_lggt, br_lglt, br_lgeq, br_zb, br_zb1, bV_s, bI_s, bL_s, zo_n, zo_s]; rfl, fun i hi => absurd hi (Nat.not_lt_zero i), fun i hi => absurd hi (Nat.not_lt_zero i), fun i hi => absurd hi (Nat.not_lt_zero i), fun i hi => absurd hi (Nat.not_lt_zero i), fun i hi => absurd hi (Nat.not_lt_zero i), fun i hi => absurd hi (Nat.not_lt_zero i), fun i hi => absurd hi (Nat.not_lt_zero i), fun i hi => absurd hi (Nat.not_lt_zero i), fun i hi => absurd hi (Nat.not_lt_zero i), by simp only [m1]; simp (disch := omega) only [w_ne, w_at, wl_ne, wl_at, wc_ne, wc_at, upd_at, upd_ne, upl_at, upl_ne, cpy_in0, zn_cl, zn_add, zn_mul, zn_sub, zn_pm, br_tt, br_ff, br_ltT, br_ltF, br_leT, br_leF, br_eqT, br_eqF, br_eqs, br_eqm, br_eqm', br_ltm, br_mlt, br_lem, br_mle, br_oiF, br_lgge, br_lgle, br_lggt, br_lglt, br_lgeq, br_zb, br_zb1, bV_s, bI_s, bL_s, zo_n, zo_s]; rfl, fun i hi => absurd hi (Nat.not_lt_zero i), fun i hi => absurd hi (Nat.not_lt_zero i), fun i hi => absurd hi (Nat.not_lt_zero i), fun l hl => ?_, fun l hl q => ?_, fun l hl => ?_, by simp only [m1]; simp (disch := omega) only [w_ne, w_at, wl_ne, wl_at, wc_ne, wc_at, upd_at, upd_ne, upl_at, upl_ne, cpy_in0, zn_cl, zn_add, zn_mul, zn_sub, zn_pm, br_tt, br_ff, br_ltT, br_ltF, br_leT, br_leF, br_eqT, br_eqF, br_eqs, br_eqm, br_eqm', br_ltm, br_mlt, br_lem, br_mle, br_oiF, br_lgge, br_lgle, br_lggt, br_lglt, br_lgeq, br_zb, br_zb1, bV_s, bI_s, bL_s, zo_n, zo_s], by rw [e7 4 (by omega)]; exact f 107 4 (zn 0) (by simp [ax_fs]), by rw [e7 5 (by omega)]; exact f 107 5 zm (by simp [ax_fs])⟩
    · rcases (by omega : l = 0 ∨ l = 1 ∨ l = 2) with q | q | q <;> subst q <;> (simp only [m1]; simp (disch := omega) only [w_ne, w_at, wl_ne, wl_at, wc_ne, wc_at, upd_at, upd_ne, upl_at, upl_ne, cpy_in0, zn_cl, zn_add, zn_mul, zn_sub, zn_pm, br_tt, br_ff, br_ltT, br_ltF, br_leT, br_leF, br_eqT, br_eqF, br_eqs, br_eqm, br_eqm', br_ltm, br_mlt, br_lem, br_mle, br_oiF, br_lgge, br_lgle, br_lggt, br_lglt, br_lgeq, br_zb, br_zb1, bV_s, bI_s, bL_s, zo_n, zo_s]; rfl)
    · rcases q with q | q
      · exact absurd q (Nat.lt_irrefl 0)
      · exact absurd q (show ¬ (0 = 1) by omega)
    · rcases (by omega : l = 0 ∨ l = 1 ∨ l = 2) with q | q | q <;> subst q <;> (simp only [m1]; simp (disch := omega) only [w_ne, w_at, wl_ne, wl_at, wc_ne, wc_at, upd_at, upd_ne, upl_at, upl_ne, cpy_in0, zn_cl, zn_add, zn_mul, zn_sub, zn_pm, br_tt, br_ff, br_ltT, br_ltF, br_leT, br_leF, br_eqT, br_eqF, br_eqs, br_eqm, br_eqm', br_ltm, br_mlt, br_lem, br_mle, br_oiF, br_lgge, br_lgle, br_lggt, br_lglt, br_lgeq, br_zb, br_zb1, bV_s, bI_s, bL_s, zo_n, zo_s]; rfl)
  obtain ⟨mC, p1, p2, p3, p4, p5⟩ := s_cps W0 g0 (fun l => rfl) P
  obtain ⟨mF, u1, u2, u3, u4, u5, u6, u7, u8, u9, u10⟩ := s_beginR W0 p2
  have c0 : ∀ c, c ≤ 106 ∨ c = 108 ∨ c = 109 → mF.1 c = m.1 c := fun c hc => by rw [u8 c hc, p3 c (by omega), ec c (by omega) (by omega) (by omega) (by omega)]
  refine ⟨m1, mF, a1, by rw [p1, u1, bV_s], Z0, Z0, Z0, q0 Z0, [], 0, 0, ⟨⟨?_, ?_, ?_, ?_, ?_, ?_, fun i hi => absurd hi (Nat.not_lt_zero i), fun i hi => absurd hi (Nat.not_lt_zero i), fun i hi => absurd hi (Nat.not_lt_zero i), fun i hi => absurd hi (Nat.not_lt_zero i), fun i hi => absurd hi (Nat.not_lt_zero i), fun i hi => absurd hi (Nat.not_lt_zero i), fun i hi => absurd hi (Nat.not_lt_zero i), fun i hi => absurd hi (Nat.not_lt_zero i), fun i hi => absurd hi (Nat.not_lt_zero i), fun i hi => absurd hi (Nat.not_lt_zero i), ?_, fun i hi => absurd hi (Nat.not_lt_zero i), fun i hi => absurd hi (Nat.not_lt_zero i), fun i hi => absurd hi (Nat.not_lt_zero i), fun i hi => ?_, ⟨fun i hi => absurd hi (Nat.not_lt_zero i), fun l hl => ?_, fun l hl => ?_, ?_⟩⟩, u3, W0, g0, fun l hl => Nat.le_refl 0, ⟨?_, fun i hi => absurd hi (Nat.not_lt_zero i), ?_, fun i hi => absurd hi (Nat.not_lt_zero i), ?_, ?_, fun i hi => absurd hi (Nat.not_lt_zero i), fun i hi => absurd hi (Nat.not_lt_zero i), ?_, fun i hi => absurd hi (Nat.not_lt_zero i)⟩, ?_, u2, qW_0 W0, by omega, by omega⟩, ⟨⟨0, fun _ => 0, by omega, fun i hi => absurd hi (Nat.not_lt_zero i), ?_, fun i hi => absurd hi (Nat.not_lt_zero i), ?_, fun i hi => absurd hi (Nat.not_lt_zero i)⟩, ⟨?_, ?_⟩, ⟨?_, ?_⟩, Or.inl ⟨?_, u7⟩, ⟨0, none, Z0, by omega, (fun b hb => by cases hb), fun i hi => absurd hi (Nat.not_lt_zero i), fun i hi => absurd hi (Nat.not_lt_zero i), ?_, ?_, fun i hi => absurd hi (Nat.not_lt_zero i), fun i hi => absurd hi (Nat.not_lt_zero i), fun i hi => absurd hi (Nat.not_lt_zero i), u4, u5, fun i hi => absurd hi (Nat.not_lt_zero i), fun i hi => absurd hi (Nat.not_lt_zero i)⟩, ⟨0, Z0, fun _ => q0 Z0, by omega, rfl, fun _ _ => qW_0 W0, fun i hi => absurd hi (Nat.not_lt_zero i), fun i hi => absurd hi (Nat.not_lt_zero i), ?_, fun i hi => absurd hi (Nat.not_lt_zero i), u6, fun i hi => absurd hi (Nat.not_lt_zero i)⟩⟩⟩
  · rw [c0 27 (by omega)]; exact f 27 0 (zn 0) (by simp [ax_fs])
  · rw [c0 27 (by omega)]; exact f 27 8 (zn 0) (by simp [ax_fs])
  · rw [c0 27 (by omega)]; exact f 27 11 (zn 0) (by simp [ax_fs])
  · rw [c0 27 (by omega)]; exact f 27 14 (zn 0) (by simp [ax_fs])
  · rw [c0 27 (by omega)]; exact f 27 15 (zn 0) (by simp [ax_fs])
  · rw [c0 27 (by omega)]; exact f 27 16 (zn 0) (by simp [ax_fs])
  · rw [c0 46 (by omega)]; exact f 46 3 (zn 0) (by simp [ax_fs])
  · rw [c0 47 (by omega), c0 33 (by omega), c0 48 (by omega), c0 34 (by omega), c0 49 (by omega), c0 36 (by omega)]; exact wc i hi
  · rw [c0 42 (by omega)]
    rcases (by omega : l = 0 ∨ l = 1 ∨ l = 2) with q | q | q <;> subst q
    · exact f 42 0 (zn 0) (by simp [ax_fs])
    · exact f 42 1 (zn 0) (by simp [ax_fs])
    · exact f 42 2 (zn 0) (by simp [ax_fs])
  · rw [c0 43 (by omega)]
    rcases (by omega : l = 0 ∨ l = 1 ∨ l = 2) with q | q | q <;> subst q
    · exact f 43 0 (zn 0) (by simp [ax_fs])
    · exact f 43 1 (zn 0) (by simp [ax_fs])
    · exact f 43 2 (zn 0) (by simp [ax_fs])
  · rw [c0 39 (by omega)]; exact f 39 2 (zn 0) (by simp [ax_fs])
  · rw [c0 71 (by omega)]; exact f 71 0 (zn 0) (by simp [ax_fs])
  · rw [c0 71 (by omega)]; exact f 71 3 (zn 0) (by simp [ax_fs])
  · rw [c0 71 (by omega)]; exact f 71 10 (zn 0) (by simp [ax_fs])
  · rw [c0 71 (by omega)]; exact f 71 6 (zn 0) (by simp [ax_fs])
  · rw [c0 71 (by omega)]; exact f 71 9 (zn 0) (by simp [ax_fs])
  · rw [c0 71 (by omega)]; exact f 71 11 (zn 0) (by simp [ax_fs])
  · rw [c0 0 (by omega)]; exact f 0 2 (zn 0) (by simp [ax_fs])
  · rw [u9 1 (by omega), p4 1 (by omega), e7 1 (by omega)]; exact f 107 1 (zn 0) (by simp [ax_fs])
  · rw [u9 4 (by omega), p4 4 (by omega), P.f0, c0 0 (by omega), f 0 3 (zn 0) (by simp [ax_fs])]
  · rw [u9 5 (by omega), p4 5 (by omega), P.f1, c0 0 (by omega), f 0 4 zm (by simp [ax_fs])]
  · rw [c0 4 (by omega)]; exact wa
  · rw [c0 109 (by omega)]; exact wb
  · rw [c0 0 (by omega)]; exact f 0 11 (zn 0) (by simp [ax_fs])
  · rw [c0 97 (by omega)]; exact f 97 4 (zn 0) (by simp [ax_fs])
  · rw [c0 97 (by omega)]; exact f 97 5 zm (by simp [ax_fs])
  · rw [c0 102 (by omega)]; exact f 102 4 (zn 0) (by simp [ax_fs])
