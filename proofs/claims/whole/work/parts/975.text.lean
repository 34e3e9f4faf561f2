/-! text -/
theorem tR.frR {T G F : Td} {m m' : am_M} (W : tW T) (gw : gW G F) (c : tR T G F m) (f : frR m m') : tR T G F m' := by
  have w1 := W.n; have w2 := W.L; have w3 := W.mn; have w4 := gw.n
  exact ⟨by rw [f.f 12 (by omega)]; exact c.n, by rw [f.f 13 (by omega)]; exact c.L, by rw [f.f 14 (by omega)]; exact c.mn, by rw [f.f 15 (by omega)]; exact c.kn, by rw [f.a 111 0 (by omega) (by omega)]; exact c.rl, by rw [f.a 111 1 (by omega) (by omega)]; exact c.fg, by rw [f.a 111 2 (by omega) (by omega)]; exact c.sd, fun i hi => by rw [f.b 112 i (by omega) (by omega)]; exact c.lt i hi, fun i hi => by rw [f.b 113 i (by omega) (by omega)]; exact c.pl i hi, fun i hi => by rw [f.b 114 i (by omega) (by omega)]; exact c.sz i hi, fun i hi => by rw [f.b 115 i (by omega) (by omega)]; exact c.sh i hi, fun i hi => by rw [f.b 116 i (by omega) (by omega)]; exact c.cm i hi, fun i hi => by rw [f.b 117 i (by omega) (by omega)]; exact c.hw i hi, fun i hi => by rw [f.b 118 i (by omega) (by omega)]; exact c.hu i hi, fun i hi => by rw [f.b 119 i (by omega) (by omega)]; exact c.rc i hi, fun i hi => by rw [f.d 120 i (by omega) (by omega), f.d 121 i (by omega) (by omega)]; exact c.ms i hi, ⟨fun j hj => by rw [f.e 125 j (by omega) (by omega)]; exact c.lw.k0 j hj, fun j hj => by rw [f.e 126 j (by omega) (by omega)]; exact c.lw.k1 j hj, fun j hj q => by rw [f.e 127 j (by omega) (by omega)]; exact c.lw.k2 j hj q, fun l hl => by rw [f.a 122 l hl (by omega)]; exact c.lw.tl l hl, fun l hl q => by rw [f.a 123 l hl (by omega), f.a 124 l hl (by omega)]; exact c.lw.fr l hl q⟩⟩
theorem Rest.txt {T : Td} {q : Sq} {w : List Nat} {m m' : am_M} (r : Rest T q w m) (e : ∀ c, c = 4 ∨ 78 ≤ c ∧ c ≤ 84 ∨ 97 ≤ c ∧ c ≤ 100 ∨ 102 ≤ c ∧ c ≤ 106 ∨ c = 109 ∨ c = 148 ∨ 153 ≤ c → m'.1 c = m.1 c) (e0 : m'.1 0 11 = m.1 0 11) (e1 : ∀ i, i = 78 ∨ i = 79 ∨ i = 85 ∨ i = 87 ∨ i = 90 ∨ i = 91 → m'.1 107 i = m.1 107 i) (e2 : m'.2 107 92 = m.2 107 92) (ta : tapI m') (fa : fltI m') : Rest T q w m' := by
  refine ⟨ta, fa, ?_, ?_, ?_, ?_⟩
  · have := r.cs
    unfold cstI at this ⊢
    rw [e 4 (by omega), e 109 (by omega)]; exact this
  · have := r.im
    unfold imgI at this ⊢
    rw [e0, e1 87 (by omega)]
    rcases this with h | ⟨h1, h2, q, w, day, num, h3⟩
    · exact Or.inl h
    · exact Or.inr ⟨h1, h2, q, w, day, num, h3.qw, h3.nb, h3.db, h3.c.mono (fun c _ _ => e c (by omega)), by rw [e 78 (by omega)]; exact h3.cn, h3.r.mono (e 154 (by omega)), by rw [e 155 (by omega)]; exact h3.rw, by rw [e1 90 (by omega)]; exact h3.rl, by rw [e1 91 (by omega)]; exact h3.rd, by rw [e2]; exact h3.rn⟩
  · obtain ⟨n, o, S, h⟩ := r.se
    exact ⟨n, o, S, h.n, h.o, h.w0, h.w1, by rw [e 97 (by omega)]; exact h.cn, by rw [e 97 (by omega)]; exact h.co, by rw [e 98 (by omega)]; exact h.c0, by rw [e 100 (by omega)]; exact h.c1, by rw [e 99 (by omega), e 100 (by omega)]; exact h.c2, by rw [e1 78 (by omega)]; exact h.rn, by rw [e1 79 (by omega)]; exact h.ro, by rw [e 148 (by omega)]; exact h.r1, by rw [e 148 (by omega)]; exact h.r2⟩
  · exact r.de.mono (fun c hc => e c (by omega)) (e1 85 (by omega))
theorem zn_nn {x : Int32} {t : Nat} (h0 : 0 ≤ x.toInt) (h1 : x.toInt ≤ (t : Int)) (ht : t ≤ 700) : ∃ n, x = zn n ∧ n ≤ t := by
  refine ⟨x.toInt.toNat, Int32.toInt_inj.mp ?_, by omega⟩
  rw [zn_i (by omega)]; omega
theorem k_text (x : Int32) : ask y_C_text y_M_text [.int x] := by
  intro m ⟨T, G, F, q, w, day, num, c, r⟩
  obtain ⟨t, X, h⟩ := r.ta
  have t7 := h.t
  have tz : (zn t).toInt = t := zn_i (by omega)
  have z0 : (zn 0).toInt = 0 := zn_i (by omega)
  by_cases g : x.toInt < 0
  · refine ⟨some (.int zq), m, (am_w m.1 107 2 (zn 0), m.2), ?_, ?_, T, G, F, q, w, day, num, c.qR (fqR_th m (zn 0)), r.qR (fqR_th m (zn 0))⟩
    · rw [n_C_text, br_lt, if_pos (by rw [z0]; exact g)]
    · rw [n_M_text, br_lt, if_pos (by rw [z0]; exact g)]
  by_cases g1' : (t : Int) < x.toInt
  · have g1 : ¬ x.toInt ≤ (t : Int) := by omega
    refine ⟨some (.int zq), m, (am_w m.1 107 2 (zn 0), m.2), ?_, ?_, T, G, F, q, w, day, num, c.qR (fqR_th m (zn 0)), r.qR (fqR_th m (zn 0))⟩
    · rw [n_C_text, br_lt, if_neg (by rw [z0]; exact g), h.c, br_le, if_neg (by rw [tz]; exact g1)]
    · rw [n_M_text, br_lt, if_neg (by rw [z0]; exact g), h.r, br_le, if_neg (by rw [tz]; exact g1)]
  have g1 : x.toInt ≤ (t : Int) := by omega
  obtain ⟨n, rfl, hn⟩ := zn_nn (by omega) g1 t7
  obtain ⟨mA, a1, a2, a3⟩ := s_readC h r.cs hn
  have preC : am_c 8 y_C_text [.ref 0, .int (zn n)] m = am_bI (r_Reader_read_47 6 29999 (zn n) (zn 0) mA) (fun r2 m1 => am_b (am_eq (m1.1 1 12) (zn 0)) (am_bV (am_c 7 y_Told_copyFrom [.ref 27, .ref 5] (am_w (am_w (am_w m1.1 0 2 (zn 0)) 0 3 (m1.1 1 12)) 0 4 (m1.1 1 13), m1.2)) (fun m3 => am_bV (am_c 7 y_Ways_follow [.ref 46, .ref 27] m3) (fun m4 => am_bV (am_c 7 y_Scene_begin [.ref 71, .ref 27] m4) (fun m5 => am_bV (am_c 7 y_Memory_clear [.ref 97] m5) (fun m6 => am_bV (am_c 7 y_Deeds_clear [.ref 102] m6) (fun m7 => some (some (.int r2), (am_w m7.1 0 11 (zn 0), m7.2)))))))) (some (some (.int zm), (am_w (am_w (am_w m1.1 0 2 (zn 0)) 0 3 (m1.1 1 12)) 0 4 (m1.1 1 13), m1.2)))) := by
    rw [n_C_text, br_ltF (by omega) (by omega), h.c, br_leT hn (by omega), a1]
  rcases rd_loop (X := X) (n := n) (by omega) n 0 0 29999 29999 Z0 Z0 Z0 (fun _ => false) 0 (by omega) (by omega) (by omega) (by omega) (by omega) (pW_0 (by omega)) with ⟨k, a, j1, j2, j3, j4, j5⟩ | ⟨T', G', F', fg', cn', t', j, j1, j2, j3, j4⟩
  · obtain ⟨mB, y, b1, b2, b3, b4⟩ := j4 mA a2
    have fAB := frC_tr a3 b4
    let m1 : am_M := (am_w (am_w (am_w mB.1 0 2 (zn 0)) 0 3 (zn k)) 0 4 (zn a), mB.2)
    have e1 : ∀ c, c ≠ 0 → c = 3 ∨ c = 4 ∨ 25 ≤ c → m1.1 c = m.1 c := fun c x1 x2 => by
      have : m1.1 c = mB.1 c := by simp only [m1]; simp (disch := omega) only [w_ne, w_at, wl_ne, wl_at, wc_ne, wc_at, upd_at, upd_ne, upl_at, upl_ne, cpy_in0, zn_cl, zn_add, zn_mul, zn_sub, zn_pm, br_tt, br_ff, br_ltT, br_ltF, br_leT, br_leF, br_eqT, br_eqF, br_eqs, br_eqm, br_eqm', br_ltm, br_mlt, br_lem, br_mle, br_oiF, br_lgge, br_lgle, br_lggt, br_lglt, br_lgeq, br_zb, br_zb1, bV_s, bI_s, bL_s, zo_n, zo_s]
      rw [this, fAB.2 c (by omega)]
    obtain ⟨mD, d1, d2, d3⟩ := s_readR (n := n) (m := m1) t7 h.x (by rw [e1 107 (by omega) (by omega)]; exact h.r) (by rw [e1 108 (by omega) (by omega)]; exact h.rb) (by rw [e1 109 (by omega) (by omega)]; exact r.cs.2) hn
    obtain ⟨mE, f1, f2, f3, f4⟩ := j5 mD d2
    have fE := frR_tr d3 f4
    have c0 : ∀ c, c ≤ 106 ∨ c = 108 ∨ c = 109 ∨ 130 ≤ c → mE.1 c = m1.1 c := fun c hc => by rw [fE.c c hc]; simp (disch := omega) only [w_ne, w_at, wl_ne, wl_at, wc_ne, wc_at, upd_at, upd_ne, upl_at, upl_ne, cpy_in0, zn_cl, zn_add, zn_mul, zn_sub, zn_pm, br_tt, br_ff, br_ltT, br_ltF, br_leT, br_leF, br_eqT, br_eqF, br_eqs, br_eqm, br_eqm', br_ltm, br_mlt, br_lem, br_mle, br_oiF, br_lgge, br_lgle, br_lggt, br_lglt, br_lgeq, br_zb, br_zb1, bV_s, bI_s, bL_s, zo_n, zo_s]
    have c7 : ∀ i, i = 3 ∨ 12 ≤ i ∧ i ≤ 15 ∨ 46 ≤ i → mE.1 107 i = m.1 107 i := fun i hi => by rw [fE.f i (by omega)]; simp (disch := omega) only [w_ne, w_at, wl_ne, wl_at, wc_ne, wc_at, upd_at, upd_ne, upl_at, upl_ne, cpy_in0, zn_cl, zn_add, zn_mul, zn_sub, zn_pm, br_tt, br_ff, br_ltT, br_ltF, br_leT, br_leF, br_eqT, br_eqF, br_eqs, br_eqm, br_eqm', br_ltm, br_mlt, br_lem, br_mle, br_oiF, br_lgge, br_lgle, br_lggt, br_lglt, br_lgeq, br_zb, br_zb1, bV_s, bI_s, bL_s, zo_n, zo_s]; rw [e1 107 (by omega) (by omega)]
    have lE : mE.2 = m.2 := by
      rw [fE.l]; show mB.2 = m.2; rw [fAB.1]
    have hw := hw_len c.qw.hw; have hn5 := c.tw.n
    refine ⟨some (.int zm), m1, mE, ?_, ?_, T, G, F, q, w, day, num, ⟨c.tc.mono (fun p _ _ => by rw [c0 p (by omega), e1 p (by omega) (by omega)]), ?_, c.tw, c.gw, c.gf, c.sc.mono (fun p _ _ => by rw [c0 p (by omega), e1 p (by omega) (by omega)]), by rw [c0 71 (by omega), e1 71 (by omega) (by omega)]; exact c.nc, c.nr.mono (by omega) c.tw.L hn5 (fun i _ => by rw [c0 132 (by omega), c0 133 (by omega), c0 137 (by omega), e1 132 (by omega) (by omega), e1 133 (by omega) (by omega), e1 137 (by omega) (by omega)]; exact ⟨rfl, rfl, rfl⟩) (by rw [c0 134 (by omega), e1 134 (by omega) (by omega)]) (by rw [c0 135 (by omega), e1 135 (by omega) (by omega)]) (by rw [c0 136 (by omega), e1 136 (by omega) (by omega)]) (by rw [c0 138 (by omega), e1 138 (by omega) (by omega)]) (by rw [c0 139 (by omega), e1 139 (by omega) (by omega)]) (c7 55 (by omega)) (by rw [lE]), c.qw, c.nb, c.db⟩, r.txt (fun p _ => by rw [c0 p (by omega), e1 p (by omega) (by omega)]) ?_ (fun i _ => c7 i (by omega)) (by rw [lE]) ⟨0, X, by omega, fun i hi => absurd hi (Nat.not_lt_zero i), ?_, fun i hi => absurd hi (Nat.not_lt_zero i), ?_, fun i hi => absurd hi (Nat.not_lt_zero i)⟩ ⟨?_, ?_⟩⟩
    · rw [preC, b1, bI_s, b2, b3, br_eqF (by omega) (by omega) (by omega)]
    · rw [d1, f1]
    · have tr1 : tR T G F (am_w (am_w m1.1 107 2 (zn 0)) 107 1 (zn 0), m1.2) := c.tr.mono (fun p x1 x2 => by simp (disch := omega) only [w_ne, w_at, wl_ne, wl_at, wc_ne, wc_at, upd_at, upd_ne, upl_at, upl_ne, cpy_in0, zn_cl, zn_add, zn_mul, zn_sub, zn_pm, br_tt, br_ff, br_ltT, br_ltF, br_leT, br_leF, br_eqT, br_eqF, br_eqs, br_eqm, br_eqm', br_ltm, br_mlt, br_lem, br_mle, br_oiF, br_lgge, br_lgle, br_lggt, br_lglt, br_lgeq, br_zb, br_zb1, bV_s, bI_s, bL_s, zo_n, zo_s]; exact e1 p (by omega) (by omega)) (fun i x1 x2 => by simp (disch := omega) only [w_ne, w_at, wl_ne, wl_at, wc_ne, wc_at, upd_at, upd_ne, upl_at, upl_ne, cpy_in0, zn_cl, zn_add, zn_mul, zn_sub, zn_pm, br_tt, br_ff, br_ltT, br_ltF, br_leT, br_leF, br_eqT, br_eqF, br_eqs, br_eqm, br_eqm', br_ltm, br_mlt, br_lem, br_mle, br_oiF, br_lgge, br_lgle, br_lggt, br_lglt, br_lgeq, br_zb, br_zb1, bV_s, bI_s, bL_s, zo_n, zo_s]; rw [e1 107 (by omega) (by omega)])
      exact tr1.frR c.tw c.gw fE
    · rw [c0 0 (by omega)]; simp only [m1]; simp (disch := omega) only [w_ne, w_at, wl_ne, wl_at, wc_ne, wc_at, upd_at, upd_ne, upl_at, upl_ne, cpy_in0, zn_cl, zn_add, zn_mul, zn_sub, zn_pm, br_tt, br_ff, br_ltT, br_ltF, br_leT, br_leF, br_eqT, br_eqF, br_eqs, br_eqm, br_eqm', br_ltm, br_mlt, br_lem, br_mle, br_oiF, br_lgge, br_lgle, br_lggt, br_lglt, br_lgeq, br_zb, br_zb1, bV_s, bI_s, bL_s, zo_n, zo_s]; rw [fAB.2 0 (by omega)]
    · rw [c0 0 (by omega)]; simp only [m1]; simp (disch := omega) only [w_ne, w_at, wl_ne, wl_at, wc_ne, wc_at, upd_at, upd_ne, upl_at, upl_ne, cpy_in0, zn_cl, zn_add, zn_mul, zn_sub, zn_pm, br_tt, br_ff, br_ltT, br_ltF, br_leT, br_leF, br_eqT, br_eqF, br_eqs, br_eqm, br_eqm', br_ltm, br_mlt, br_lem, br_mle, br_oiF, br_lgge, br_lgle, br_lggt, br_lglt, br_lgeq, br_zb, br_zb1, bV_s, bI_s, bL_s, zo_n, zo_s]
    · rw [fE.f 1 (by omega)]; simp (disch := omega) only [w_ne, w_at, wl_ne, wl_at, wc_ne, wc_at, upd_at, upd_ne, upl_at, upl_ne, cpy_in0, zn_cl, zn_add, zn_mul, zn_sub, zn_pm, br_tt, br_ff, br_ltT, br_ltF, br_leT, br_leF, br_eqT, br_eqF, br_eqs, br_eqm, br_eqm', br_ltm, br_mlt, br_lem, br_mle, br_oiF, br_lgge, br_lgle, br_lggt, br_lglt, br_lgeq, br_zb, br_zb1, bV_s, bI_s, bL_s, zo_n, zo_s]
    · rw [f2, c0 0 (by omega)]; simp only [m1]; simp (disch := omega) only [w_ne, w_at, wl_ne, wl_at, wc_ne, wc_at, upd_at, upd_ne, upl_at, upl_ne, cpy_in0, zn_cl, zn_add, zn_mul, zn_sub, zn_pm, br_tt, br_ff, br_ltT, br_ltF, br_leT, br_leF, br_eqT, br_eqF, br_eqs, br_eqm, br_eqm', br_ltm, br_mlt, br_lem, br_mle, br_oiF, br_lgge, br_lgle, br_lggt, br_lglt, br_lgeq, br_zb, br_zb1, bV_s, bI_s, bL_s, zo_n, zo_s]
    · rw [f3, c0 0 (by omega)]; simp only [m1]; simp (disch := omega) only [w_ne, w_at, wl_ne, wl_at, wc_ne, wc_at, upd_at, upd_ne, upl_at, upl_ne, cpy_in0, zn_cl, zn_add, zn_mul, zn_sub, zn_pm, br_tt, br_ff, br_ltT, br_ltF, br_leT, br_leF, br_eqT, br_eqF, br_eqs, br_eqm, br_eqm', br_ltm, br_mlt, br_lem, br_mle, br_oiF, br_lgge, br_lgle, br_lggt, br_lglt, br_lgeq, br_zb, br_zb1, bV_s, bI_s, bL_s, zo_n, zo_s]
  · obtain ⟨mB, b1, b2, b3⟩ := j3 mA a2
    have fAB := frC_tr a3 b3
    obtain ⟨m1, k1, k2, k3, k4, k5, k6, k7, k8, k9, k10, k11, k12, k13, k14, k15⟩ := s_keepC (r2 := zn j) j1.tw j1.gw b2
    have e7 : ∀ c, 107 ≤ c → m1.1 c = m.1 c := fun c hc => by rw [k15 c hc, fAB.2 c (by omega)]
    obtain ⟨mD, d1, d2, d3⟩ := s_readR (n := n) (m := m1) t7 h.x (by rw [e7 107 (by omega)]; exact h.r) (by rw [e7 108 (by omega)]; exact h.rb) (by rw [e7 109 (by omega)]; exact r.cs.2) hn
    obtain ⟨mE, f1, f2, f3⟩ := j4 mD d2
    have fE := frR_tr d3 f3
    obtain ⟨mC, p1, p2, p3, p4, p5⟩ := s_cps j1.tw j1.gw (fun l => (j1.gf l).2) f2
    obtain ⟨mF, u1, u2, u3, u4, u5, u6, u7, u8, u9, u10⟩ := s_beginR j1.tw p2
    have c0 : ∀ c, c ≤ 106 ∨ c = 108 ∨ c = 109 → mF.1 c = m1.1 c := fun c hc => by rw [u8 c hc, p3 c (by omega), fE.c c (by omega)]; simp (disch := omega) only [w_ne, w_at, wl_ne, wl_at, wc_ne, wc_at, upd_at, upd_ne, upl_at, upl_ne, cpy_in0, zn_cl, zn_add, zn_mul, zn_sub, zn_pm, br_tt, br_ff, br_ltT, br_ltF, br_leT, br_leF, br_eqT, br_eqF, br_eqs, br_eqm, br_eqm', br_ltm, br_mlt, br_lem, br_mle, br_oiF, br_lgge, br_lgle, br_lggt, br_lglt, br_lgeq, br_zb, br_zb1, bV_s, bI_s, bL_s, zo_n, zo_s]
    have sd := j1.tw.sd
    refine ⟨some (.int (zn j)), m1, mF, ?_, ?_, T', G', F', q0 T', [], 0, T' 0 5, ⟨k2.mono (fun p _ _ => c0 p (by omega)), u3, j1.tw, j1.gw, fun l hl => (j1.gf l).1 hl, k3.mono (fun p _ _ => c0 p (by omega)), by rw [c0 71 (by omega)]; exact k4, u2, qW_0 j1.tw, by omega, by omega⟩, ⟨⟨0, X, by omega, fun i hi => absurd hi (Nat.not_lt_zero i), by rw [c0 0 (by omega)]; exact k9, fun i hi => absurd hi (Nat.not_lt_zero i), ?_, fun i hi => absurd hi (Nat.not_lt_zero i)⟩, ⟨?_, ?_⟩, ⟨?_, ?_⟩, Or.inl ⟨by rw [c0 0 (by omega)]; exact k8, u7⟩, ⟨0, none, Z0, by omega, (fun b hb => by cases hb), fun i hi => absurd hi (Nat.not_lt_zero i), fun i hi => absurd hi (Nat.not_lt_zero i), by rw [c0 97 (by omega)]; exact k5, by rw [c0 97 (by omega)]; exact k6, fun i hi => absurd hi (Nat.not_lt_zero i), fun i hi => absurd hi (Nat.not_lt_zero i), fun i hi => absurd hi (Nat.not_lt_zero i), u4, u5, fun i hi => absurd hi (Nat.not_lt_zero i), fun i hi => absurd hi (Nat.not_lt_zero i)⟩, ⟨0, Z0, fun _ => q0 T', by omega, rfl, fun _ _ => qW_0 j1.tw, fun i hi => absurd hi (Nat.not_lt_zero i), fun i hi => absurd hi (Nat.not_lt_zero i), by rw [c0 102 (by omega)]; exact k7, fun i hi => absurd hi (Nat.not_lt_zero i), u6, fun i hi => absurd hi (Nat.not_lt_zero i)⟩⟩⟩
    · rw [preC, b1, bI_s, br_eq, if_pos b2.f0]; exact k1
    · rw [d1, f1, p1, u1, bV_s, bV_s]
    · rw [u9 1 (by omega), p4 1 (by omega), fE.f 1 (by omega)]; simp (disch := omega) only [w_ne, w_at, wl_ne, wl_at, wc_ne, wc_at, upd_at, upd_ne, upl_at, upl_ne, cpy_in0, zn_cl, zn_add, zn_mul, zn_sub, zn_pm, br_tt, br_ff, br_ltT, br_ltF, br_leT, br_leF, br_eqT, br_eqF, br_eqs, br_eqm, br_eqm', br_ltm, br_mlt, br_lem, br_mle, br_oiF, br_lgge, br_lgle, br_lggt, br_lglt, br_lgeq, br_zb, br_zb1, bV_s, bI_s, bL_s, zo_n, zo_s]
    · rw [u9 4 (by omega), p4 4 (by omega), f2.f0, c0 0 (by omega), k10]
    · rw [u9 5 (by omega), p4 5 (by omega), f2.f1, c0 0 (by omega), k11]
    · rw [c0 4 (by omega), k14, fAB.2 4 (by omega)]; exact r.cs.1
    · rw [c0 109 (by omega), e7 109 (by omega)]; exact r.cs.2
