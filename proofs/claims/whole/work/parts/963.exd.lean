/-! laws' lines: an operand, all kinds -/
theorem nm_R {d K V : Nat} {m : am_M} (h : rtk K V (m.1 107 8) (m.1 107 9)) : am_c (d + 1) y_M_nameMet [.ref 107] m = some (some (.int (if 18 ≤ K ∧ K ≤ 24 then zn (K - 18) else zm)), m) := by
  rw [n_M_nameMet]
  rcases rtk_key h with ⟨q1, q2, q3⟩ | ⟨q1, x, q2, q3, q4⟩
  · rw [q2, q3, br_eqT rfl]
    have e : 18 ≤ K → kk K = K := fun e => by unfold kk; rw [if_neg (by omega), if_neg (by omega)]
    have e' : K < 18 → kk K < 18 := fun e => by unfold kk; (repeat' split) <;> omega
    by_cases g : 18 ≤ K
    · rw [e g, br_ltF (by omega) (by omega), zn_sub g, if_pos ⟨g, by omega⟩]
    · rw [br_ltT (e' (by omega)) (by omega), if_neg (fun z => g z.1)]
  · rw [q2, br_eqF q4 (by omega) (by omega), if_neg (by omega)]
theorem op_stp {X : Nat → Nat} {n p : Nat} {T G F : Td} {fg : Nat → Bool} {cn fr : Nat} {w s : List Nat} {nt : Bool} (hp : p ≤ n) (I : eI fr G F cn w s true) (gw : gW G F) (hcn : cn ≤ 64) : stp X n T G F fg cn (tok X n p) fr w s true nt (am_c 3 y_Reader_takeOperand [.ref 1]) (am_c 5 y_M_leafRead [.ref 107]) := by
  have a1 := tok_at (X := X) hp
  have v1 := tok_V (X := X) hp
  have hlen := len_pn w
  have hbn := bi_nb w
  have io8 := I.o8
  have icn := I.cn
  have isl := I.sl
  have b1' : b01 true = 0 := rfl
  have b0' : b01 false = 1 := rfl
  rw [b1'] at isl
  have sg := sg_at (K := (tok X n p).1)
  have kq := kk_17 (K := (tok X n p).1)
  by_cases g28 : (tok X n p).1 = 28
  · by_cases g8 : pr_ w = 8
    · refine Or.inl ⟨2, by omega, by omega, fun m h c => ?_, fun m h c => ?_⟩
      · obtain ⟨m', e1, e2⟩ := s_failC (d := 1) (k := 2) h.k.at_
        exact ⟨m', by rw [n_Reader_takeOperand, h.k.k, br_eqT g28, c.o, br_ltF (by omega) (by omega), e1, bI_s, br_eqT rfl], e2⟩
      · obtain ⟨m', e1, e2⟩ := s_failR (d := 3) (k := 2) h.k.at_
        exact ⟨m', by rw [n_M_leafRead, isSign_R (by omega) h.k.k, decide_eq_true (sg.2.1.mpr g28), bI_s, br_zb, if_pos rfl, c.o, br_eqT g8, e1, bI_s, br_eqT rfl], e2⟩
    · refine Or.inr ⟨by omega, G, F, cn, 0 :: w, s, true, true, ⟨fun q hq => ?_, by rw [pr_, if_pos rfl]; omega, by rw [nb_, if_pos rfl]; omega, by rw [bi_, if_pos (by omega), b1']; omega, I.fk, I.tp, I.ri⟩, gw, hcn, fun _ _ _ => rfl, fun m h c => ?_, fun m h c => ?_⟩
      · rcases List.mem_cons.mp hq with e | e
        · exact Or.inl e
        · exact I.wk q e
      · have h1 := (((h.x (c := 1) (j := 5) (x := zn (pr_ w + 1)) (by omega)).x (c := 1) (j := 7) (x := zn 1) (by omega)).x (c := 24) (j := w.length) (x := zn (tok X n p).1) (by omega)).x (c := 1) (j := 3) (x := zn (w.length + 1)) (by omega)
        refine ⟨_, ?_, h1, ⟨by simp (disch := omega) only [w_ne, w_at, wl_ne, wl_at, wc_ne, wc_at, upd_at, upd_ne, upl_at, upl_ne, cpy_in0, zn_cl, zn_add, zn_mul, zn_sub, zn_pm, br_tt, br_ff, br_ltT, br_ltF, br_leT, br_leF, br_eqT, br_eqF, br_eqs, br_eqm, br_eqm', br_ltm, br_mlt, br_lem, br_mle, br_oiF, br_lgge, br_lgle, br_lggt, br_lglt, br_lgeq, br_zb, br_zb1, bV_s, bI_s, bL_s, zo_n, zo_s]; rfl, ⟨by simp (disch := omega) only [w_ne, w_at, wl_ne, wl_at, wc_ne, wc_at, upd_at, upd_ne, upl_at, upl_ne, cpy_in0, zn_cl, zn_add, zn_mul, zn_sub, zn_pm, br_tt, br_ff, br_ltT, br_ltF, br_leT, br_leF, br_eqT, br_eqF, br_eqs, br_eqm, br_eqm', br_ltm, br_mlt, br_lem, br_mle, br_oiF, br_lgge, br_lgle, br_lggt, br_lglt, br_lgeq, br_zb, br_zb1, bV_s, bI_s, bL_s, zo_n, zo_s, g28]; rfl, skC_w c.s (fun i hi => by simp (disch := omega) only [w_ne, w_at, wl_ne, wl_at, wc_ne, wc_at, upd_at, upd_ne, upl_at, upl_ne, cpy_in0, zn_cl, zn_add, zn_mul, zn_sub, zn_pm, br_tt, br_ff, br_ltT, br_ltF, br_leT, br_leF, br_eqT, br_eqF, br_eqs, br_eqm, br_eqm', br_ltm, br_mlt, br_lem, br_mle, br_oiF, br_lgge, br_lgle, br_lggt, br_lglt, br_lgeq, br_zb, br_zb1, bV_s, bI_s, bL_s, zo_n, zo_s])⟩, by simp (disch := omega) only [w_ne, w_at, wl_ne, wl_at, wc_ne, wc_at, upd_at, upd_ne, upl_at, upl_ne, cpy_in0, zn_cl, zn_add, zn_mul, zn_sub, zn_pm, br_tt, br_ff, br_ltT, br_ltF, br_leT, br_leF, br_eqT, br_eqF, br_eqs, br_eqm, br_eqm', br_ltm, br_mlt, br_lem, br_mle, br_oiF, br_lgge, br_lgle, br_lggt, br_lglt, br_lgeq, br_zb, br_zb1, bV_s, bI_s, bL_s, zo_n, zo_s]; rw [pr_, if_pos rfl], by simp (disch := omega) only [w_ne, w_at, wl_ne, wl_at, wc_ne, wc_at, upd_at, upd_ne, upl_at, upl_ne, cpy_in0, zn_cl, zn_add, zn_mul, zn_sub, zn_pm, br_tt, br_ff, br_ltT, br_ltF, br_leT, br_leF, br_eqT, br_eqF, br_eqs, br_eqm, br_eqm', br_ltm, br_mlt, br_lem, br_mle, br_oiF, br_lgge, br_lgle, br_lggt, br_lglt, br_lgeq, br_zb, br_zb1, bV_s, bI_s, bL_s, zo_n, zo_s, c.e], by simp (disch := omega) only [w_ne, w_at, wl_ne, wl_at, wc_ne, wc_at, upd_at, upd_ne, upl_at, upl_ne, cpy_in0, zn_cl, zn_add, zn_mul, zn_sub, zn_pm, br_tt, br_ff, br_ltT, br_ltF, br_leT, br_leF, br_eqT, br_eqF, br_eqs, br_eqm, br_eqm', br_ltm, br_mlt, br_lem, br_mle, br_oiF, br_lgge, br_lgle, br_lggt, br_lglt, br_lgeq, br_zb, br_zb1, bV_s, bI_s, bL_s, zo_n, zo_s]; rfl⟩, ?_⟩
        · rw [n_Reader_takeOperand, h.k.k, br_eqT g28, c.o, br_ltT (by omega) (by omega), zn_add, holdC (d := 1) (L := w.length) (by simp (disch := omega) only [w_ne, w_at, wl_ne, wl_at, wc_ne, wc_at, upd_at, upd_ne, upl_at, upl_ne, cpy_in0, zn_cl, zn_add, zn_mul, zn_sub, zn_pm, br_tt, br_ff, br_ltT, br_ltF, br_leT, br_leF, br_eqT, br_eqF, br_eqs, br_eqm, br_eqm', br_ltm, br_mlt, br_lem, br_mle, br_oiF, br_lgge, br_lgle, br_lggt, br_lglt, br_lgeq, br_zb, br_zb1, bV_s, bI_s, bL_s, zo_n, zo_s, c.l]) (by omega), bV_s]
        · exact frC_tr (frC_w (c := 1) (j := 5) (x := zn (pr_ w + 1)) (by omega)) (frC_tr (frC_w (c := 1) (j := 7) (x := zn 1) (by omega)) (frC_tr (frC_w (c := 24) (j := w.length) (x := zn (tok X n p).1) (by omega)) (frC_w (by omega))))
      · have h1 := (((h.x (c := 107) (j := 42) (x := zn (pr_ w + 1)) (by omega)).x (c := 128) (j := w.length) (x := zn 0) (by omega)).x (c := 107) (j := 40) (x := zn (w.length + 1)) (by omega)).x (c := 107) (j := 45) (x := zn 1) (by omega)
        obtain ⟨m3, c1, c2, c3⟩ := adv_R (d := 2) h1 a1.2.1
        refine ⟨m3, ?_, c2, eR_k ⟨by simp (disch := omega) only [w_ne, w_at, wl_ne, wl_at, wc_ne, wc_at, upd_at, upd_ne, upl_at, upl_ne, cpy_in0, zn_cl, zn_add, zn_mul, zn_sub, zn_pm, br_tt, br_ff, br_ltT, br_ltF, br_leT, br_leF, br_eqT, br_eqF, br_eqs, br_eqm, br_eqm', br_ltm, br_mlt, br_lem, br_mle, br_oiF, br_lgge, br_lgle, br_lggt, br_lglt, br_lgeq, br_zb, br_zb1, bV_s, bI_s, bL_s, zo_n, zo_s]; rfl, ⟨by simp (disch := omega) only [w_ne, w_at, wl_ne, wl_at, wc_ne, wc_at, upd_at, upd_ne, upl_at, upl_ne, cpy_in0, zn_cl, zn_add, zn_mul, zn_sub, zn_pm, br_tt, br_ff, br_ltT, br_ltF, br_leT, br_leF, br_eqT, br_eqF, br_eqs, br_eqm, br_eqm', br_ltm, br_mlt, br_lem, br_mle, br_oiF, br_lgge, br_lgle, br_lggt, br_lglt, br_lgeq, br_zb, br_zb1, bV_s, bI_s, bL_s, zo_n, zo_s], skR_w c.s (fun i hi => by simp (disch := omega) only [w_ne, w_at, wl_ne, wl_at, wc_ne, wc_at, upd_at, upd_ne, upl_at, upl_ne, cpy_in0, zn_cl, zn_add, zn_mul, zn_sub, zn_pm, br_tt, br_ff, br_ltT, br_ltF, br_leT, br_leF, br_eqT, br_eqF, br_eqs, br_eqm, br_eqm', br_ltm, br_mlt, br_lem, br_mle, br_oiF, br_lgge, br_lgle, br_lggt, br_lglt, br_lgeq, br_zb, br_zb1, bV_s, bI_s, bL_s, zo_n, zo_s])⟩, by simp (disch := omega) only [w_ne, w_at, wl_ne, wl_at, wc_ne, wc_at, upd_at, upd_ne, upl_at, upl_ne, cpy_in0, zn_cl, zn_add, zn_mul, zn_sub, zn_pm, br_tt, br_ff, br_ltT, br_ltF, br_leT, br_leF, br_eqT, br_eqF, br_eqs, br_eqm, br_eqm', br_ltm, br_mlt, br_lem, br_mle, br_oiF, br_lgge, br_lgle, br_lggt, br_lglt, br_lgeq, br_zb, br_zb1, bV_s, bI_s, bL_s, zo_n, zo_s, c.hl], hdR_w c.h (fun i hi => by simp (disch := omega) only [w_ne, w_at, wl_ne, wl_at, wc_ne, wc_at, upd_at, upd_ne, upl_at, upl_ne, cpy_in0, zn_cl, zn_add, zn_mul, zn_sub, zn_pm, br_tt, br_ff, br_ltT, br_ltF, br_leT, br_leF, br_eqT, br_eqF, br_eqs, br_eqm, br_eqm', br_ltm, br_mlt, br_lem, br_mle, br_oiF, br_lgge, br_lgle, br_lggt, br_lglt, br_lgeq, br_zb, br_zb1, bV_s, bI_s, bL_s, zo_n, zo_s]), by simp (disch := omega) only [w_ne, w_at, wl_ne, wl_at, wc_ne, wc_at, upd_at, upd_ne, upl_at, upl_ne, cpy_in0, zn_cl, zn_add, zn_mul, zn_sub, zn_pm, br_tt, br_ff, br_ltT, br_ltF, br_leT, br_leF, br_eqT, br_eqF, br_eqs, br_eqm, br_eqm', br_ltm, br_mlt, br_lem, br_mle, br_oiF, br_lgge, br_lgle, br_lggt, br_lglt, br_lgeq, br_zb, br_zb1, bV_s, bI_s, bL_s, zo_n, zo_s]; rw [pr_, if_pos rfl], by simp (disch := omega) only [w_ne, w_at, wl_ne, wl_at, wc_ne, wc_at, upd_at, upd_ne, upl_at, upl_ne, cpy_in0, zn_cl, zn_add, zn_mul, zn_sub, zn_pm, br_tt, br_ff, br_ltT, br_ltF, br_leT, br_leF, br_eqT, br_eqF, br_eqs, br_eqm, br_eqm', br_ltm, br_mlt, br_lem, br_mle, br_oiF, br_lgge, br_lgle, br_lggt, br_lglt, br_lgeq, br_zb, br_zb1, bV_s, bI_s, bL_s, zo_n, zo_s, c.e], by simp (disch := omega) only [w_ne, w_at, wl_ne, wl_at, wc_ne, wc_at, upd_at, upd_ne, upl_at, upl_ne, cpy_in0, zn_cl, zn_add, zn_mul, zn_sub, zn_pm, br_tt, br_ff, br_ltT, br_ltF, br_leT, br_leF, br_eqT, br_eqF, br_eqs, br_eqm, br_eqm', br_ltm, br_mlt, br_lem, br_mle, br_oiF, br_lgge, br_lgle, br_lggt, br_lglt, br_lgeq, br_zb, br_zb1, bV_s, bI_s, bL_s, zo_n, zo_s]; rfl⟩ c3, ?_⟩
        · rw [n_M_leafRead, isSign_R (by omega) h.k.k, decide_eq_true (sg.2.1.mpr g28), bI_s, br_zb, if_pos rfl, c.o, br_eqF g8 (by omega) (by omega), zn_add, waitR (d := 3) (L := w.length) (by simp (disch := omega) only [w_ne, w_at, wl_ne, wl_at, wc_ne, wc_at, upd_at, upd_ne, upl_at, upl_ne, cpy_in0, zn_cl, zn_add, zn_mul, zn_sub, zn_pm, br_tt, br_ff, br_ltT, br_ltF, br_leT, br_leF, br_eqT, br_eqF, br_eqs, br_eqm, br_eqm', br_ltm, br_mlt, br_lem, br_mle, br_oiF, br_lgge, br_lgle, br_lggt, br_lglt, br_lgeq, br_zb, br_zb1, bV_s, bI_s, bL_s, zo_n, zo_s, c.l]) (by omega), bV_s, c1, bV_s]
        · exact frR_tr (frR_w (c := 107) (j := 42) (x := zn (pr_ w + 1)) (by unfold wokR; omega)) (frR_tr (frR_w (c := 128) (j := w.length) (x := zn 0) (by unfold wokR; omega)) (frR_tr (frR_w (c := 107) (j := 40) (x := zn (w.length + 1)) (by unfold wokR; omega)) (frR_tr (frR_w (c := 107) (j := 45) (x := zn 1) (by unfold wokR; omega)) c3.R)))
  by_cases g17 : (tok X n p).1 = 17 ∧ nt = true
  · obtain ⟨g17, gn⟩ := g17
    subst gn
    have preC : ∀ {m : am_M}, pC X n T G F fg cn (tok X n p) m → eC w true true m → am_c 3 y_Reader_takeOperand [.ref 1] m = am_bV (am_c 2 y_Reader_hold [.ref 1, .int (zn (tok X n p).1)] m) (fun m1 => am_bI (am_c 2 y_Reader_countKnot [.ref 1] m1) (fun r3 m2 => am_b (am_eq r3 (zn 0)) (some (some (.int r3), m2)) (am_b (am_eq r3 (zn 1)) (some (some (.int r3), m2)) none))) := fun h c => by
      rw [n_Reader_takeOperand, h.k.k, br_eqF g28 (by omega) (by omega), br_eqT g17, c.n, br_zb, if_pos rfl]
    have preR : ∀ {m : am_M}, pR X n T G F fg cn (tok X n p) m → eR w s true true m → am_c 5 y_M_leafRead [.ref 107] m = am_bI (am_c 4 y_M_isCounted [.ref 107] m) (fun r6 m5 => am_b (am_eq r6 (zn 0)) (some (some (.int (zn 0)), m5)) (am_bV (am_c 4 y_M_waitsFor [.ref 107, .int (zn 2)] m5) (fun m7 => am_bV (am_c 4 y_M_token [.ref 107] m7) (fun m8 => some (some (.int (zn 1)), m8))))) := fun h c => by
      rw [n_M_leafRead, isSign_R (by omega) h.k.k, decide_eq_false (fun z => g28 (sg.2.1.mp z)), bI_s, br_zb, if_neg (by simp), isKey_R (by omega) h.k.k, decide_eq_true ⟨by omega, kq.1.mpr g17⟩, bI_s, br_zb, if_pos rfl, c.n, br_zb, if_pos rfl]
    by_cases g64 : cn = 64
    · refine Or.inl ⟨2, by omega, by omega, fun m h c => ?_, fun m h c => ?_⟩
      · obtain ⟨m1, e1, e2, e3, e4⟩ := holdC_f (d := 1) (K := (tok X n p).1) c.l (by omega)
        obtain ⟨m2, f1, f2⟩ := cntC_f (d := 0) (m := m1) (a := (tok X n p).2.2.1) (by rw [e3, h.cn, g64]) (by rw [e4]; exact h.k.at_)
        exact ⟨m2, by rw [preC h c, e1, bV_s, f1, bI_s, br_eqT rfl], flC_tr e2 f2⟩
      · obtain ⟨m2, f1, f2⟩ := cntR_f (d := 2) (m := m) (a := (tok X n p).2.2.1) (by rw [h.cn, g64]) h.k.at_
        exact ⟨m2, by rw [preR h c, f1, bI_s, br_eqT rfl], f2⟩
    · refine Or.inr ⟨by omega, G, F, cn + 1, 2 :: w, s, true, true, ⟨fun q hq => ?_, by rw [pr_, if_neg (by omega)]; omega, by rw [nb_, if_neg (by omega)]; omega, by rw [bi_, if_pos (by omega), b1']; omega, I.fk, I.tp, I.ri⟩, gw, by omega, fun _ _ _ => rfl, fun m h c => ?_, fun m h c => ?_⟩
      · rcases List.mem_cons.mp hq with e | e
        · exact Or.inr (by omega)
        · exact I.wk q e
      · have h1 := ((h.x (c := 24) (j := w.length) (x := zn (tok X n p).1) (by omega)).x (c := 1) (j := 3) (x := zn (w.length + 1)) (by omega)).cnt
        refine ⟨_, ?_, h1, ⟨by simp (disch := omega) only [w_ne, w_at, wl_ne, wl_at, wc_ne, wc_at, upd_at, upd_ne, upl_at, upl_ne, cpy_in0, zn_cl, zn_add, zn_mul, zn_sub, zn_pm, br_tt, br_ff, br_ltT, br_ltF, br_leT, br_leF, br_eqT, br_eqF, br_eqs, br_eqm, br_eqm', br_ltm, br_mlt, br_lem, br_mle, br_oiF, br_lgge, br_lgle, br_lggt, br_lglt, br_lgeq, br_zb, br_zb1, bV_s, bI_s, bL_s, zo_n, zo_s]; rfl, ⟨by simp (disch := omega) only [w_ne, w_at, wl_ne, wl_at, wc_ne, wc_at, upd_at, upd_ne, upl_at, upl_ne, cpy_in0, zn_cl, zn_add, zn_mul, zn_sub, zn_pm, br_tt, br_ff, br_ltT, br_ltF, br_leT, br_leF, br_eqT, br_eqF, br_eqs, br_eqm, br_eqm', br_ltm, br_mlt, br_lem, br_mle, br_oiF, br_lgge, br_lgle, br_lggt, br_lglt, br_lgeq, br_zb, br_zb1, bV_s, bI_s, bL_s, zo_n, zo_s, g17]; rfl, skC_w c.s (fun i hi => by simp (disch := omega) only [w_ne, w_at, wl_ne, wl_at, wc_ne, wc_at, upd_at, upd_ne, upl_at, upl_ne, cpy_in0, zn_cl, zn_add, zn_mul, zn_sub, zn_pm, br_tt, br_ff, br_ltT, br_ltF, br_leT, br_leF, br_eqT, br_eqF, br_eqs, br_eqm, br_eqm', br_ltm, br_mlt, br_lem, br_mle, br_oiF, br_lgge, br_lgle, br_lggt, br_lglt, br_lgeq, br_zb, br_zb1, bV_s, bI_s, bL_s, zo_n, zo_s])⟩, by simp (disch := omega) only [w_ne, w_at, wl_ne, wl_at, wc_ne, wc_at, upd_at, upd_ne, upl_at, upl_ne, cpy_in0, zn_cl, zn_add, zn_mul, zn_sub, zn_pm, br_tt, br_ff, br_ltT, br_ltF, br_leT, br_leF, br_eqT, br_eqF, br_eqs, br_eqm, br_eqm', br_ltm, br_mlt, br_lem, br_mle, br_oiF, br_lgge, br_lgle, br_lggt, br_lglt, br_lgeq, br_zb, br_zb1, bV_s, bI_s, bL_s, zo_n, zo_s, c.o]; rw [pr_, if_neg (by omega)]; rfl, by simp (disch := omega) only [w_ne, w_at, wl_ne, wl_at, wc_ne, wc_at, upd_at, upd_ne, upl_at, upl_ne, cpy_in0, zn_cl, zn_add, zn_mul, zn_sub, zn_pm, br_tt, br_ff, br_ltT, br_ltF, br_leT, br_leF, br_eqT, br_eqF, br_eqs, br_eqm, br_eqm', br_ltm, br_mlt, br_lem, br_mle, br_oiF, br_lgge, br_lgle, br_lggt, br_lglt, br_lgeq, br_zb, br_zb1, bV_s, bI_s, bL_s, zo_n, zo_s, c.e], by simp (disch := omega) only [w_ne, w_at, wl_ne, wl_at, wc_ne, wc_at, upd_at, upd_ne, upl_at, upl_ne, cpy_in0, zn_cl, zn_add, zn_mul, zn_sub, zn_pm, br_tt, br_ff, br_ltT, br_ltF, br_leT, br_leF, br_eqT, br_eqF, br_eqs, br_eqm, br_eqm', br_ltm, br_mlt, br_lem, br_mle, br_oiF, br_lgge, br_lgle, br_lggt, br_lglt, br_lgeq, br_zb, br_zb1, bV_s, bI_s, bL_s, zo_n, zo_s, c.n]⟩, ?_⟩
        · rw [preC h c, holdC (d := 1) c.l (by omega), bV_s, cntC_o (d := 1) (cn := cn) (by simp (disch := omega) only [w_ne, w_at, wl_ne, wl_at, wc_ne, wc_at, upd_at, upd_ne, upl_at, upl_ne, cpy_in0, zn_cl, zn_add, zn_mul, zn_sub, zn_pm, br_tt, br_ff, br_ltT, br_ltF, br_leT, br_leF, br_eqT, br_eqF, br_eqs, br_eqm, br_eqm', br_ltm, br_mlt, br_lem, br_mle, br_oiF, br_lgge, br_lgle, br_lggt, br_lglt, br_lgeq, br_zb, br_zb1, bV_s, bI_s, bL_s, zo_n, zo_s, h.cn]) (by omega), bI_s, br_eqF (by omega) (by omega) (by omega), br_eqT rfl]
        · exact frC_tr (frC_w (c := 24) (j := w.length) (x := zn (tok X n p).1) (by omega)) (frC_tr (frC_w (c := 1) (j := 3) (x := zn (w.length + 1)) (by omega)) (frC_w (by omega)))
      · have h1 := (h.cnt.x (c := 128) (j := w.length) (x := zn 2) (by omega)).x (c := 107) (j := 40) (x := zn (w.length + 1)) (by omega)
        obtain ⟨m3, c1, c2, c3⟩ := adv_R (d := 2) h1 a1.2.1
        refine ⟨m3, ?_, c2, eR_k ⟨by simp (disch := omega) only [w_ne, w_at, wl_ne, wl_at, wc_ne, wc_at, upd_at, upd_ne, upl_at, upl_ne, cpy_in0, zn_cl, zn_add, zn_mul, zn_sub, zn_pm, br_tt, br_ff, br_ltT, br_ltF, br_leT, br_leF, br_eqT, br_eqF, br_eqs, br_eqm, br_eqm', br_ltm, br_mlt, br_lem, br_mle, br_oiF, br_lgge, br_lgle, br_lggt, br_lglt, br_lgeq, br_zb, br_zb1, bV_s, bI_s, bL_s, zo_n, zo_s]; rfl, ⟨by simp (disch := omega) only [w_ne, w_at, wl_ne, wl_at, wc_ne, wc_at, upd_at, upd_ne, upl_at, upl_ne, cpy_in0, zn_cl, zn_add, zn_mul, zn_sub, zn_pm, br_tt, br_ff, br_ltT, br_ltF, br_leT, br_leF, br_eqT, br_eqF, br_eqs, br_eqm, br_eqm', br_ltm, br_mlt, br_lem, br_mle, br_oiF, br_lgge, br_lgle, br_lggt, br_lglt, br_lgeq, br_zb, br_zb1, bV_s, bI_s, bL_s, zo_n, zo_s], skR_w c.s (fun i hi => by simp (disch := omega) only [w_ne, w_at, wl_ne, wl_at, wc_ne, wc_at, upd_at, upd_ne, upl_at, upl_ne, cpy_in0, zn_cl, zn_add, zn_mul, zn_sub, zn_pm, br_tt, br_ff, br_ltT, br_ltF, br_leT, br_leF, br_eqT, br_eqF, br_eqs, br_eqm, br_eqm', br_ltm, br_mlt, br_lem, br_mle, br_oiF, br_lgge, br_lgle, br_lggt, br_lglt, br_lgeq, br_zb, br_zb1, bV_s, bI_s, bL_s, zo_n, zo_s])⟩, by simp (disch := omega) only [w_ne, w_at, wl_ne, wl_at, wc_ne, wc_at, upd_at, upd_ne, upl_at, upl_ne, cpy_in0, zn_cl, zn_add, zn_mul, zn_sub, zn_pm, br_tt, br_ff, br_ltT, br_ltF, br_leT, br_leF, br_eqT, br_eqF, br_eqs, br_eqm, br_eqm', br_ltm, br_mlt, br_lem, br_mle, br_oiF, br_lgge, br_lgle, br_lggt, br_lglt, br_lgeq, br_zb, br_zb1, bV_s, bI_s, bL_s, zo_n, zo_s, c.hl], hdR_w c.h (fun i hi => by simp (disch := omega) only [w_ne, w_at, wl_ne, wl_at, wc_ne, wc_at, upd_at, upd_ne, upl_at, upl_ne, cpy_in0, zn_cl, zn_add, zn_mul, zn_sub, zn_pm, br_tt, br_ff, br_ltT, br_ltF, br_leT, br_leF, br_eqT, br_eqF, br_eqs, br_eqm, br_eqm', br_ltm, br_mlt, br_lem, br_mle, br_oiF, br_lgge, br_lgle, br_lggt, br_lglt, br_lgeq, br_zb, br_zb1, bV_s, bI_s, bL_s, zo_n, zo_s]), by simp (disch := omega) only [w_ne, w_at, wl_ne, wl_at, wc_ne, wc_at, upd_at, upd_ne, upl_at, upl_ne, cpy_in0, zn_cl, zn_add, zn_mul, zn_sub, zn_pm, br_tt, br_ff, br_ltT, br_ltF, br_leT, br_leF, br_eqT, br_eqF, br_eqs, br_eqm, br_eqm', br_ltm, br_mlt, br_lem, br_mle, br_oiF, br_lgge, br_lgle, br_lggt, br_lglt, br_lgeq, br_zb, br_zb1, bV_s, bI_s, bL_s, zo_n, zo_s, c.o]; rw [pr_, if_neg (by omega)]; rfl, by simp (disch := omega) only [w_ne, w_at, wl_ne, wl_at, wc_ne, wc_at, upd_at, upd_ne, upl_at, upl_ne, cpy_in0, zn_cl, zn_add, zn_mul, zn_sub, zn_pm, br_tt, br_ff, br_ltT, br_ltF, br_leT, br_leF, br_eqT, br_eqF, br_eqs, br_eqm, br_eqm', br_ltm, br_mlt, br_lem, br_mle, br_oiF, br_lgge, br_lgle, br_lggt, br_lglt, br_lgeq, br_zb, br_zb1, bV_s, bI_s, bL_s, zo_n, zo_s, c.e], by simp (disch := omega) only [w_ne, w_at, wl_ne, wl_at, wc_ne, wc_at, upd_at, upd_ne, upl_at, upl_ne, cpy_in0, zn_cl, zn_add, zn_mul, zn_sub, zn_pm, br_tt, br_ff, br_ltT, br_ltF, br_leT, br_leF, br_eqT, br_eqF, br_eqs, br_eqm, br_eqm', br_ltm, br_mlt, br_lem, br_mle, br_oiF, br_lgge, br_lgle, br_lggt, br_lglt, br_lgeq, br_zb, br_zb1, bV_s, bI_s, bL_s, zo_n, zo_s, c.n]⟩ c3, ?_⟩
        · rw [preR h c, cntR_o (d := 3) h.cn (by omega), bI_s, br_eqF (by omega) (by omega) (by omega), waitR (d := 3) (L := w.length) (by simp (disch := omega) only [w_ne, w_at, wl_ne, wl_at, wc_ne, wc_at, upd_at, upd_ne, upl_at, upl_ne, cpy_in0, zn_cl, zn_add, zn_mul, zn_sub, zn_pm, br_tt, br_ff, br_ltT, br_ltF, br_leT, br_leF, br_eqT, br_eqF, br_eqs, br_eqm, br_eqm', br_ltm, br_mlt, br_lem, br_mle, br_oiF, br_lgge, br_lgle, br_lggt, br_lglt, br_lgeq, br_zb, br_zb1, bV_s, bI_s, bL_s, zo_n, zo_s, c.l]) (by omega), bV_s, c1, bV_s]
        · exact frR_tr (frR_w (c := 107) (j := 43) (x := zn (cn + 1)) (by unfold wokR; omega)) (frR_tr (frR_w (c := 128) (j := w.length) (x := zn 2) (by unfold wokR; omega)) (frR_tr (frR_w (c := 107) (j := 40) (x := zn (w.length + 1)) (by unfold wokR; omega)) c3.R))
  have pR86 : ∀ {m : am_M}, pR X n T G F fg cn (tok X n p) m → eR w s true nt m → am_c 5 y_M_leafRead [.ref 107] m = r_M_leafRead_86 4 29999 m := fun h c => by
    rw [n_M_leafRead, isSign_R (by omega) h.k.k, decide_eq_false (fun z => g28 (sg.2.1.mp z)), bI_s, br_zb, if_neg (by simp), isKey_R (by omega) h.k.k, bI_s, br_zb]
    by_cases g : (tok X n p).1 = 17
    · have gn : nt = false := by cases nt with
        | true => exact absurd ⟨g, rfl⟩ g17
        | false => rfl
      rw [decide_eq_true ⟨by omega, kq.1.mpr g⟩, if_pos rfl, c.n, gn, br_zb, if_neg (by simp)]
    · rw [decide_eq_false (fun z => g (kq.1.mp z.2)), if_neg (by simp)]
  have pC74 : ∀ {m : am_M}, pC X n T G F fg cn (tok X n p) m → eC w true nt m → am_c 3 y_Reader_takeOperand [.ref 1] m = r_Reader_takeOperand_74 2 29999 (zn (tok X n p).1) m := fun h c => by
    rw [n_Reader_takeOperand, h.k.k, br_eqF g28 (by omega) (by omega)]
    by_cases g : (tok X n p).1 = 17
    · have gn : nt = false := by cases nt with
        | true => exact absurd ⟨g, rfl⟩ g17
        | false => rfl
      rw [br_eqT g, c.n, gn, br_zb, if_neg (by simp)]
    · rw [br_eqF g (by omega) (by omega)]
  have leafI : cn < 64 → ∀ q v : Nat, ((q = 0 ∧ v < 10000) ∨ (q = 1 ∧ v < 7)) → eI fr (Gk G (F 2 0) q v 0) (Fk F) (cn + 1) w (F 2 0 :: s) false := fun hc q v hq =>
    ⟨I.wk, I.o8, by rw [Fk_20]; omega, by rw [List.length_cons, b0']; omega, by rw [Fk_20]; have := I.fk; omega, Or.inr ⟨by rw [Fk_20]; have := I.fk; omega, s, by rw [Fk_20, Nat.add_sub_cancel]⟩, by rw [Fk_20]; exact rI_leaf I.ri I.fk hq⟩
  by_cases gN : 18 ≤ (tok X n p).1 ∧ (tok X n p).1 ≤ 24
  · have pC108 : ∀ {m : am_M}, pC X n T G F fg cn (tok X n p) m → eC w true nt m → am_c 3 y_Reader_takeOperand [.ref 1] m = am_bI (am_c 2 y_Reader_countKnot [.ref 1] (am_w m.1 1 6 (zn 0), m.2)) (fun r2 m1 => am_b (am_eq r2 (zn 0)) (some (some (.int (zn 0)), m1)) (am_bV (am_c 2 y_Laws_put [.ref 17, .int (zn (tok X n p).1), .int (zn 0)] m1) (fun m4 => some (some (.int (zn 1)), m4)))) := fun h c => by
      rw [pC74 h c, e_Reader_takeOperand_74 2 29998, br_ltF (by omega) (by omega), br_ltF (by omega) (by omega), br_eqF (by omega) (by omega) (by omega), e_Reader_takeOperand_108 2 29997, br_eqF (by omega) (by omega) (by omega)]
      simp only [br_eqF (show (1 : Nat) ≠ 0 by omega) (show 1 < 2147483648 by omega) (show 0 < 2147483648 by omega)]
    have pR129 : ∀ {m : am_M}, pR X n T G F fg cn (tok X n p) m → eR w s true nt m → am_c 5 y_M_leafRead [.ref 107] m = r_M_leafRead_129 4 29997 (zn ((tok X n p).1 - 18)) m := fun h c => by
      rw [pR86 h c, e_M_leafRead_86 4 29998, nm_R h.k.k, if_pos gN, bI_s, br_leT (by omega) (by omega), e_M_leafRead_109 4 29997, br_leT (by omega) (by omega)]
    by_cases g64 : cn = 64
    · refine Or.inl ⟨2, by omega, by omega, fun m h c => ?_, fun m h c => ?_⟩
      · obtain ⟨m2, f1, f2⟩ := cntC_f (d := 0) (m := (am_w m.1 1 6 (zn 0), m.2)) (a := (tok X n p).2.2.1) (by simp (disch := omega) only [w_ne, w_at, wl_ne, wl_at, wc_ne, wc_at, upd_at, upd_ne, upl_at, upl_ne, cpy_in0, zn_cl, zn_add, zn_mul, zn_sub, zn_pm, br_tt, br_ff, br_ltT, br_ltF, br_leT, br_leF, br_eqT, br_eqF, br_eqs, br_eqm, br_eqm', br_ltm, br_mlt, br_lem, br_mle, br_oiF, br_lgge, br_lgle, br_lggt, br_lglt, br_lgeq, br_zb, br_zb1, bV_s, bI_s, bL_s, zo_n, zo_s, h.cn, g64]) (by simp (disch := omega) only [w_ne, w_at, wl_ne, wl_at, wc_ne, wc_at, upd_at, upd_ne, upl_at, upl_ne, cpy_in0, zn_cl, zn_add, zn_mul, zn_sub, zn_pm, br_tt, br_ff, br_ltT, br_ltF, br_leT, br_leF, br_eqT, br_eqF, br_eqs, br_eqm, br_eqm', br_ltm, br_mlt, br_lem, br_mle, br_oiF, br_lgge, br_lgle, br_lggt, br_lglt, br_lgeq, br_zb, br_zb1, bV_s, bI_s, bL_s, zo_n, zo_s, h.k.at_])
        exact ⟨m2, by rw [pC108 h c, f1, bI_s, br_eqT rfl], flC_tr (frC_w (by omega)) f2⟩
      · obtain ⟨m2, f1, f2⟩ := cntR_f (d := 2) (m := m) (a := (tok X n p).2.2.1) (by rw [h.cn, g64]) h.k.at_
        exact ⟨m2, by rw [pR129 h c, e_M_leafRead_129 4 29996, f1, bI_s, br_eqT rfl], f2⟩
    · refine Or.inr ⟨by omega, _, _, cn + 1, w, F 2 0 :: s, false, nt, leafI (by omega) 1 ((tok X n p).1 - 18) (by omega), gW_k gw (by omega), by omega, fun a i ha => Fk_ne ha, fun m h c => ?_, fun m h c => ?_⟩
      · obtain ⟨m1, m2, e1, e2, e3, e4, e5, e6⟩ := leaf_C (K := (tok X n p).1) (q := 1) (p := (tok X n p).1 - 18) (v := zn 0) h c (by omega) (by omega) (by show _ = 18 + ((tok X n p).1 - 18); omega) (fun z => by omega)
        exact ⟨m2, by rw [pC108 h c, e1, bI_s, br_eqF (by omega) (by omega) (by omega), e3, bV_s], e4, e5, e6⟩
      · obtain ⟨m1, m2, m3, e1, e2, e3, e4, e5, e6, e7⟩ := leaf_R (q := 1) (p := (tok X n p).1 - 18) h c a1.2.1 (by omega) (by omega) (by omega) (by omega)
        exact ⟨m3, by rw [pR129 h c, e_M_leafRead_129 4 29996, e1, bI_s, br_eqF (by omega) (by omega) (by omega), br_ltF (by omega) (by omega), br_ltF (by omega) (by omega), e3, bV_s, e4, bV_s], e5, e6, e7⟩
  by_cases g26 : (tok X n p).1 = 26
  · have hV := v1.2.2 g26
    have pC108 : ∀ {m : am_M}, pC X n T G F fg cn (tok X n p) m → eC w true nt m → am_c 3 y_Reader_takeOperand [.ref 1] m = r_Reader_takeOperand_108 2 29997 (zn 26) (zn 0) m := fun h c => by
      rw [pC74 h c, e_Reader_takeOperand_74 2 29998, br_ltF (by omega) (by omega), br_ltT (by omega) (by omega), e_Reader_takeOperand_90 2 29997, br_eqT g26, g26]
    have num : ∀ {m : am_M}, pR X n T G F fg cn (tok X n p) m → m.1 107 8 = zn 3 ∧ ∃ r, m.1 107 9 = zn r ∧ r ≤ 1000000 ∧ ((tok X n p).2.1 ≤ 99999 → r = (tok X n p).2.1) ∧ (99999 < (tok X n p).2.1 → 99999 < r) := fun h => by
      rcases rtk_26 h.k.k v1.1 with ⟨_, q2, r, q3, q4, q5, q6⟩ | ⟨q, _⟩
      · exact ⟨q2, r, q3, q4, q5, q6⟩
      · exact absurd g26 q
    have zl : ∀ (t f : am_R), am_b (am_le (zn 0) zm) t f = f := fun t f => by rw [br_le, if_neg (by decide)]
    have zt : ∀ (t f : am_R), am_b (am_lt zm (zn 0)) t f = t := fun t f => by rw [br_lt, if_pos (by decide)]
    have pR109 : ∀ {m : am_M}, pR X n T G F fg cn (tok X n p) m → eR w s true nt m → am_c 5 y_M_leafRead [.ref 107] m = r_M_leafRead_109 4 29998 zm m := fun h c => by
      rw [pR86 h c, e_M_leafRead_86 4 29998, nm_R h.k.k, if_neg gN, bI_s, zl, (num h).1, br_eqT rfl]
    by_cases g9 : (tok X n p).2.1 ≤ 9999
    · have pCc : ∀ {m : am_M}, pC X n T G F fg cn (tok X n p) m → eC w true nt m → am_c 3 y_Reader_takeOperand [.ref 1] m = am_bI (am_c 2 y_Reader_countKnot [.ref 1] (am_w m.1 1 6 (zn 0), m.2)) (fun r6 m5 => am_b (am_eq r6 (zn 0)) (some (some (.int (zn 0)), m5)) (am_bV (am_c 2 y_Laws_put [.ref 17, .int (zn 26), .int (m5.1 2 7)] m5) (fun m7 => some (some (.int (zn 1)), m7)))) := fun h c => by
        rw [pC108 h c, e_Reader_takeOperand_108 2 29996, br_eqT rfl, h.k.va g26, br_leT g9 (by omega)]
        simp only [br_eqT (show (0 : Nat) = 0 from rfl)]
      have pR129 : ∀ {m : am_M}, pR X n T G F fg cn (tok X n p) m → eR w s true nt m → am_c 5 y_M_leafRead [.ref 107] m = r_M_leafRead_129 4 29997 zm m ∧ m.1 107 9 = zn (tok X n p).2.1 := fun h c => by
        obtain ⟨z1, r, z2, z3, z4, z5⟩ := num h
        have zr := z4 (by omega)
        subst zr
        exact ⟨by rw [pR109 h c, e_M_leafRead_109 4 29997, zl, z2, br_leT g9 (by omega)], z2⟩
      by_cases g64 : cn = 64
      · refine Or.inl ⟨2, by omega, by omega, fun m h c => ?_, fun m h c => ?_⟩
        · obtain ⟨m2, f1, f2⟩ := cntC_f (d := 0) (m := (am_w m.1 1 6 (zn 0), m.2)) (a := (tok X n p).2.2.1) (by simp (disch := omega) only [w_ne, w_at, wl_ne, wl_at, wc_ne, wc_at, upd_at, upd_ne, upl_at, upl_ne, cpy_in0, zn_cl, zn_add, zn_mul, zn_sub, zn_pm, br_tt, br_ff, br_ltT, br_ltF, br_leT, br_leF, br_eqT, br_eqF, br_eqs, br_eqm, br_eqm', br_ltm, br_mlt, br_lem, br_mle, br_oiF, br_lgge, br_lgle, br_lggt, br_lglt, br_lgeq, br_zb, br_zb1, bV_s, bI_s, bL_s, zo_n, zo_s, h.cn, g64]) (by simp (disch := omega) only [w_ne, w_at, wl_ne, wl_at, wc_ne, wc_at, upd_at, upd_ne, upl_at, upl_ne, cpy_in0, zn_cl, zn_add, zn_mul, zn_sub, zn_pm, br_tt, br_ff, br_ltT, br_ltF, br_leT, br_leF, br_eqT, br_eqF, br_eqs, br_eqm, br_eqm', br_ltm, br_mlt, br_lem, br_mle, br_oiF, br_lgge, br_lgle, br_lggt, br_lglt, br_lgeq, br_zb, br_zb1, bV_s, bI_s, bL_s, zo_n, zo_s, h.k.at_])
          exact ⟨m2, by rw [pCc h c, f1, bI_s, br_eqT rfl], flC_tr (frC_w (by omega)) f2⟩
        · obtain ⟨m2, f1, f2⟩ := cntR_f (d := 2) (m := m) (a := (tok X n p).2.2.1) (by rw [h.cn, g64]) h.k.at_
          exact ⟨m2, by rw [(pR129 h c).1, e_M_leafRead_129 4 29996, f1, bI_s, br_eqT rfl], f2⟩
      · refine Or.inr ⟨by omega, _, _, cn + 1, w, F 2 0 :: s, false, nt, leafI (by omega) 0 (tok X n p).2.1 (by omega), gW_k gw (by omega), by omega, fun a i ha => Fk_ne ha, fun m h c => ?_, fun m h c => ?_⟩
        · obtain ⟨m1, m2, e1, e2, e3, e4, e5, e6⟩ := leaf_C (K := 26) (q := 0) (p := (tok X n p).2.1) (v := zn (tok X n p).2.1) h c (by omega) (by omega) rfl (fun z => rfl)
          exact ⟨m2, by rw [pCc h c, e1, bI_s, br_eqF (by omega) (by omega) (by omega), e2, h.k.va g26, e3, bV_s], e4, e5, e6⟩
        · obtain ⟨m1, m2, m3, e1, e2, e3, e4, e5, e6, e7⟩ := leaf_R (q := 0) (p := (tok X n p).2.1) h c a1.2.1 (by omega) (by omega) (by omega) (by omega)
          exact ⟨m3, by rw [(pR129 h c).1, e_M_leafRead_129 4 29996, e1, bI_s, br_eqF (by omega) (by omega) (by omega), zt, zt, e2, (pR129 h c).2, e3, bV_s, e4, bV_s], e5, e6, e7⟩
    · refine Or.inl ⟨2, by omega, by omega, fun m h c => ?_, fun m h c => ?_⟩
      · obtain ⟨m2, f1, f2⟩ := s_failC (d := 1) (k := 2) h.k.at_
        exact ⟨m2, by rw [pC108 h c, e_Reader_takeOperand_108 2 29996, br_eqT rfl, h.k.va g26, br_leF (by omega) (by omega), f1, bI_s, br_eqT rfl], f2⟩
      · obtain ⟨z1, r, z2, z3, z4, z5⟩ := num h
        have hr : 9999 < r := by
          rcases Nat.lt_or_ge 99999 (tok X n p).2.1 with q | q
          · have := z5 q; omega
          · have := z4 q; omega
        obtain ⟨m2, f1, f2⟩ := s_failR (d := 3) (k := 2) h.k.at_
        exact ⟨m2, by rw [pR109 h c, e_M_leafRead_109 4 29997, zl, z2, br_leF hr (by omega), f1, bI_s, br_eqT rfl], f2⟩
  · refine Or.inl ⟨1, by omega, by omega, fun m h c => ?_, fun m h c => ?_⟩
    · obtain ⟨m2, f1, f2⟩ := s_failC (d := 1) (k := 1) h.k.at_
      refine ⟨m2, ?_, f2⟩
      rw [pC74 h c, e_Reader_takeOperand_74 2 29998]
      rcases Nat.lt_or_ge (tok X n p).1 18 with q | q
      · rw [br_ltT q (by omega), e_Reader_takeOperand_90 2 29997, br_eqF g26 (by omega) (by omega), f1, bI_s, br_eqT rfl]
      · rw [br_ltF q (by omega), br_ltT (by omega) (by omega), e_Reader_takeOperand_90 2 29997, br_eqF g26 (by omega) (by omega), f1, bI_s, br_eqT rfl]
    · obtain ⟨m2, f1, f2⟩ := s_failR (d := 3) (k := 1) h.k.at_
      refine ⟨m2, ?_, f2⟩
      rw [pR86 h c, e_M_leafRead_86 4 29998, nm_R h.k.k, if_neg gN, bI_s, br_le, if_neg (by decide)]
      rcases rtk_26 h.k.k v1.1 with ⟨q, _⟩ | ⟨_, x, q2, q3, q4⟩
      · exact absurd q g26
      · rw [q2, br_eqF q4 (by omega) (by omega), f1, bI_s, br_eqT rfl]
