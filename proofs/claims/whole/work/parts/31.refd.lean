/-! the day of the reference: thieves, noon, the whole day -/
theorem lq_gr {b : Nat} (hb1 : b < 2) {T V : Td} {E : Ev} (W : tw T V) {d : Nat} {x2 : Int32} {w : List Nat} {m : am_M} (c : rx T V E m) (hw : w.length ≤ 5) (hl : m.1 134 b = zn w.length) (hr : ∀ i, i < w.length → m.1 133 (5 * b + i) = zn (w.getD i 0)) (hb : ∀ i, i < w.length → w.getD i 0 < T 0 0) (r : Nat) :
    ∀ (i f q : Nat), i + r = w.length → r < f → q < w.length →
    ∃ f', r_M_thieves_49 d f (zn b) x2 (zn q) (zn i) m = r_M_thieves_49 d (f' + 1) (zn b) x2 (zn (sp_amax (fun i => T 2 (w.getD i 0)) r i q)) (zn w.length) m ∧ f ≤ f' + r + 1 := by
  induction r with
  | zero =>
    intro i f q h1 h2 h3
    refine ⟨f - 1, ?_, by omega⟩
    rw [sp_amax, Nat.sub_add_cancel (by omega)]
    have : i = w.length := by omega
    rw [this]
  | succ r ih =>
    intro i f q h1 h2 h3
    have := W.n; have p1 := hb i (by omega); have p2 := hb q h3; have a2 := W.sz _ p1; have a3 := W.sz _ p2
    obtain ⟨f, rfl⟩ : ∃ g, f = g + 1 := ⟨f - 1, by omega⟩
    rw [sp_amax, e_M_thieves_49]
    simp (disch := omega) only [w_ne, w_at, wl_ne, wl_at, wc_ne, wc_at, upd_at, upd_ne, upl_at, upl_ne, cpy_in0, zn_cl, zn_add, zn_mul, zn_sub, zn_pm, br_tt, br_ff, br_ltT, br_ltF, br_leT, br_leF, br_eqT, br_eqF, br_eqs, br_eqm, br_eqm', br_ltm, br_mlt, br_lem, br_mle, br_oiF, br_lgge, br_lgle, br_lggt, br_lglt, br_lgeq, br_zb, br_zb1, bV_s, bI_s, bL_s, zo_n, zo_s, hl, hr, c.sz]
    by_cases e : T 2 (w.getD q 0) < T 2 (w.getD i 0)
    · obtain ⟨f', b1, b2⟩ := ih (i + 1) f i (by omega) (by omega) (by omega)
      rw [br_leF e (by omega), b1, if_pos e]; exact ⟨f', rfl, by omega⟩
    · obtain ⟨f', b1, b2⟩ := ih (i + 1) f q (by omega) (by omega) h3
      rw [br_leT (by omega) (by omega), b1, if_neg e]; exact ⟨f', rfl, by omega⟩
theorem lq_thv {b : Nat} (hb1 : b < 2) {T V : Td} {E : Ev} (W : tw T V) {ord : List Nat} {U : Nat → Nat} {mt : List (Nat × Nat)} {day d : Nat} (r : Nat) :
    ∀ (t f : Nat) (h : Hs) (w : List Nat) (x y : Option Value) (m : am_M), t + r = T 0 0 → 10 * r < f → rx T V E m → rn b T ord U mt h w day m → hwI (T 0 0) h w →
    ∃ m', r_M_thieves_2 (d + 1) f (zn b) (zn t) x y m = some (none, m') ∧ rn b T ord U mt (sp_thv T V r t h w).1 (sp_thv T V r t h w).2 day m' ∧ frd b m m' := by
  induction r with
  | zero =>
    intro t f h w x y m h1 h2 c s I
    have := W.n
    obtain ⟨f, rfl⟩ : ∃ g, f = g + 1 := ⟨f - 1, by omega⟩
    refine ⟨m, ?_, s, frd_refl b m⟩
    rw [e_M_thieves_2]
    simp (disch := omega) only [w_ne, w_at, wl_ne, wl_at, wc_ne, wc_at, upd_at, upd_ne, upl_at, upl_ne, cpy_in0, zn_cl, zn_add, zn_mul, zn_sub, zn_pm, br_tt, br_ff, br_ltT, br_ltF, br_leT, br_leF, br_eqT, br_eqF, br_eqs, br_eqm, br_eqm', br_ltm, br_mlt, br_lem, br_mle, br_oiF, br_lgge, br_lgle, br_lggt, br_lglt, br_lgeq, br_zb, br_zb1, bV_s, bI_s, bL_s, zo_n, zo_s, c.n]
  | succ r ih =>
    intro t f h w x y m h1 h2 c s I
    have := W.n; have := hw_len I; have := W.hw t (by omega)
    obtain ⟨f, rfl⟩ : ∃ g, f = g + 1 := ⟨f - 1, by omega⟩
    have e0 := s_howOf W c (d := d) (t := t) (by omega)
    rw [sp_thv]
    by_cases q1 : V 1 t = 1
    · by_cases q3 : 0 < w.length
      · rcases opt_c (h t) with q2 | ⟨q, q2⟩
        · have hg := gr_lt (T := T) q3
          obtain ⟨f', b1, b2⟩ := lq_gr hb1 W (d := d + 1) (x2 := zn t) c (by omega) s.wl s.ws (fun i hi => hw_g I hi) (w.length - 1) 1 f 0 (by omega) (by omega) q3
          have hgr : sp_amax (fun i => T 2 (w.getD i 0)) (w.length - 1) 1 0 = sp_gr T w := rfl
          obtain ⟨m2, a1, a2, a3⟩ := s_taken hb1 (d := d) (by omega) s.dd hg
          obtain ⟨g1, g2⟩ := rd_set (o := some (w.getD (sp_gr T w) 0)) W.n a2 (t := t) (by omega)
          have f3 := frd_tr a3 g2
          obtain ⟨m', d1, d2, d3⟩ := ih (t + 1) f' _ _ (some (.int (zn (sp_gr T w)))) (some (.int (zn w.length))) _ (by omega) (by omega) (c.fd f3) (s.to g1 f3) (hw_take I (by omega) q2 hg)
          rw [if_pos ⟨q1, q2, q3⟩]
          refine ⟨m', ?_, d2, frd_tr f3 d3⟩
          rw [e_M_thieves_2]
          simp (disch := omega) only [w_ne, w_at, wl_ne, wl_at, wc_ne, wc_at, upd_at, upd_ne, upl_at, upl_ne, cpy_in0, zn_cl, zn_add, zn_mul, zn_sub, zn_pm, br_tt, br_ff, br_ltT, br_ltF, br_leT, br_leF, br_eqT, br_eqF, br_eqs, br_eqm, br_eqm', br_ltm, br_mlt, br_lem, br_mle, br_oiF, br_lgge, br_lgle, br_lggt, br_lglt, br_lgeq, br_zb, br_zb1, bV_s, bI_s, bL_s, zo_n, zo_s, c.n, e0, q1, s.wl, s.hs, q2]
          rw [b1, hgr, e_M_thieves_49]
          simp (disch := omega) only [w_ne, w_at, wl_ne, wl_at, wc_ne, wc_at, upd_at, upd_ne, upl_at, upl_ne, cpy_in0, zn_cl, zn_add, zn_mul, zn_sub, zn_pm, br_tt, br_ff, br_ltT, br_ltF, br_leT, br_leF, br_eqT, br_eqF, br_eqs, br_eqm, br_eqm', br_ltm, br_mlt, br_lem, br_mle, br_oiF, br_lgge, br_lgle, br_lggt, br_lglt, br_lgeq, br_zb, br_zb1, bV_s, bI_s, bL_s, zo_n, zo_s, s.wl, a1]
          exact d1
        · have := hw_h I (by omega) q2
          obtain ⟨m', d1, d2, d3⟩ := ih (t + 1) f h w x y m (by omega) (by omega) c s I
          rw [if_neg (by simp [q2])]
          refine ⟨m', ?_, d2, d3⟩
          rw [e_M_thieves_2]
          simp (disch := omega) only [w_ne, w_at, wl_ne, wl_at, wc_ne, wc_at, upd_at, upd_ne, upl_at, upl_ne, cpy_in0, zn_cl, zn_add, zn_mul, zn_sub, zn_pm, br_tt, br_ff, br_ltT, br_ltF, br_leT, br_leF, br_eqT, br_eqF, br_eqs, br_eqm, br_eqm', br_ltm, br_mlt, br_lem, br_mle, br_oiF, br_lgge, br_lgle, br_lggt, br_lglt, br_lgeq, br_zb, br_zb1, bV_s, bI_s, bL_s, zo_n, zo_s, c.n, e0, q1, s.wl, s.hs, q2, d1]
      · obtain ⟨m', d1, d2, d3⟩ := ih (t + 1) f h w x y m (by omega) (by omega) c s I
        rw [if_neg (fun e => q3 e.2.2)]
        refine ⟨m', ?_, d2, d3⟩
        rw [e_M_thieves_2]
        simp (disch := omega) only [w_ne, w_at, wl_ne, wl_at, wc_ne, wc_at, upd_at, upd_ne, upl_at, upl_ne, cpy_in0, zn_cl, zn_add, zn_mul, zn_sub, zn_pm, br_tt, br_ff, br_ltT, br_ltF, br_leT, br_leF, br_eqT, br_eqF, br_eqs, br_eqm, br_eqm', br_ltm, br_mlt, br_lem, br_mle, br_oiF, br_lgge, br_lgle, br_lggt, br_lglt, br_lgeq, br_zb, br_zb1, bV_s, bI_s, bL_s, zo_n, zo_s, c.n, e0, q1, s.wl, d1]
    · obtain ⟨m', d1, d2, d3⟩ := ih (t + 1) f h w x y m (by omega) (by omega) c s I
      rw [if_neg (fun e => q1 e.1)]
      refine ⟨m', ?_, d2, d3⟩
      rw [e_M_thieves_2]
      simp (disch := omega) only [w_ne, w_at, wl_ne, wl_at, wc_ne, wc_at, upd_at, upd_ne, upl_at, upl_ne, cpy_in0, zn_cl, zn_add, zn_mul, zn_sub, zn_pm, br_tt, br_ff, br_ltT, br_ltF, br_leT, br_leF, br_eqT, br_eqF, br_eqs, br_eqm, br_eqm', br_ltm, br_mlt, br_lem, br_mle, br_oiF, br_lgge, br_lgle, br_lggt, br_lglt, br_lgeq, br_zb, br_zb1, bV_s, bI_s, bL_s, zo_n, zo_s, c.n, e0, d1]
theorem s_thieves {b : Nat} (hb1 : b < 2) {T V : Td} {E : Ev} (W : tw T V) {ord : List Nat} {U : Nat → Nat} {mt : List (Nat × Nat)} {day d : Nat} {h : Hs} {w : List Nat} {m : am_M} (c : rx T V E m) (s : rn b T ord U mt h w day m) (I : hwI (T 0 0) h w) :
    ∃ m', am_c (d + 2) y_M_thieves [.ref 107, .int (zn b)] m = some (none, m') ∧ rn b T ord U mt (sp_thv T V (T 0 0) 0 h w).1 (sp_thv T V (T 0 0) 0 h w).2 day m' ∧ frd b m m' := by
  have := W.n
  rw [n_M_thieves]
  exact lq_thv hb1 W (T 0 0) 0 29999 h w none none m (by omega) (by omega) c s I
theorem rd_swp {b n x y : Nat} {h : Hs} {w : List Nat} {m : am_M} (hn : n ≤ 5) (s : rd b n h w m) (hx : x < n) (hy : y < n) (hxy : x ≠ y) : rd b n (sp_swp h x y) w (am_w (am_w m.1 132 (5 * b + x) (zo (h y))) 132 (5 * b + y) (zo (h x)), m.2) ∧ frd b m (am_w (am_w m.1 132 (5 * b + x) (zo (h y))) 132 (5 * b + y) (zo (h x)), m.2) := by
  obtain ⟨g1, g2⟩ := rd_set (o := h y) hn s hx
  obtain ⟨g3, g4⟩ := rd_set (o := h x) hn g1 hy
  exact ⟨g3, frd_tr g2 g4⟩
theorem nb_a {b : Nat} (hb1 : b < 2) {n x y i d f K : Nat} {h : Hs} {m : am_M} {x3 x4 x5 x6 : Option Value} (hn : n ≤ 5) (hs : ∀ i, i < n → m.1 132 (5 * b + i) = zo (h i)) (hx : x < n) (hy : y < n) (hi : i < 10) {L : Nat} (hL : m.1 107 55 = zn L) (hiL : i < L) (hL2 : L ≤ 10) (hno : m.1 107 60 = zn 0) (h1 : m.1 138 i = zn x) (h2 : m.1 139 i = zn y) :
    b_M_noon d f (K + 31) 2 [some (.ref 107), some (.int (zn b)), some (.int (zn i)), x3, x4, x5, x6] [] m = b_M_noon d f K 50 [some (.ref 107), some (.int (zn b)), some (.int (zn i)), some (.int (zo (h x))), some (.int (zo (h y))), x5, x6] [] m := by
  rw [b_M_noon_2, b_M_noon_3, b_M_noon_4, b_M_noon_7, hL, br_leF hiL (by omega), b_M_noon_10, b_M_noon_11, b_M_noon_14, hno, br_eqT rfl, b_M_noon_17, b_M_noon_18, b_M_noon_21, b_M_noon_22, b_M_noon_23, b_M_noon_24, b_M_noon_25, b_M_noon_28, b_M_noon_29, br_oiF (by omega) (by omega), zn_cl (by omega), h1, b_M_noon_30, zn_mul, zn_add, b_M_noon_31, br_oiF (by omega) (by omega), zn_cl (by omega), hs x hx, b_M_noon_32, b_M_noon_33, b_M_noon_34, b_M_noon_37, b_M_noon_38, b_M_noon_39, b_M_noon_40, b_M_noon_41, b_M_noon_44, b_M_noon_45, br_oiF (by omega) (by omega), zn_cl (by omega), h2, b_M_noon_46, zn_mul, zn_add, b_M_noon_47, br_oiF (by omega) (by omega), zn_cl (by omega), hs y hy, b_M_noon_48]
theorem nb_b {b : Nat} {x y i d f K : Nat} {h : Hs} {m : am_M} {x5 x6 : Option Value} (hi : i < 10) (h1 : m.1 138 i = zn x) (h2 : m.1 139 i = zn y) (p1 : ∀ t f : am_R, am_b (am_eq (zo (h x)) (zn x)) t f = if h x = some x then t else f) (p2 : ∀ t f : am_R, am_b (am_eq (zo (h y)) (zn y)) t f = if h y = some y then t else f) :
    ∃ K', K ≤ K' ∧ b_M_noon d f (K + 18) 50 [some (.ref 107), some (.int (zn b)), some (.int (zn i)), some (.int (zo (h x))), some (.int (zo (h y))), x5, x6] [] m = b_M_noon d f K' 84 [some (.ref 107), some (.int (zn b)), some (.int (zn i)), some (.int (zo (h x))), some (.int (zo (h y))), some (.int (zn (sp_is x (h x) + sp_is y (h y)))), x6] [] m := by
  unfold sp_is
  by_cases q1 : h x = some x
  · by_cases q2 : h y = some y
    · refine ⟨K, by omega, ?_⟩
      rw [b_M_noon_50, b_M_noon_51, b_M_noon_52, b_M_noon_55, b_M_noon_56, br_oiF (by omega) (by omega), zn_cl (by omega), h1, b_M_noon_57, p1, if_pos q1, b_M_noon_60, b_M_noon_61, b_M_noon_65, b_M_noon_67, b_M_noon_68, b_M_noon_71, b_M_noon_72, br_oiF (by omega) (by omega), zn_cl (by omega), h2, b_M_noon_73, p2, if_pos q2, b_M_noon_76, b_M_noon_77, b_M_noon_81, zn_add, b_M_noon_82, if_pos q1, if_pos q2]
    · refine ⟨K + 1, by omega, ?_⟩
      rw [b_M_noon_50, b_M_noon_51, b_M_noon_52, b_M_noon_55, b_M_noon_56, br_oiF (by omega) (by omega), zn_cl (by omega), h1, b_M_noon_57, p1, if_pos q1, b_M_noon_60, b_M_noon_61, b_M_noon_65, b_M_noon_67, b_M_noon_68, b_M_noon_71, b_M_noon_72, br_oiF (by omega) (by omega), zn_cl (by omega), h2, b_M_noon_73, p2, if_neg q2, b_M_noon_80, b_M_noon_81, zn_add, b_M_noon_82, if_pos q1, if_neg q2]
  · by_cases q2 : h y = some y
    · refine ⟨K + 1, by omega, ?_⟩
      rw [b_M_noon_50, b_M_noon_51, b_M_noon_52, b_M_noon_55, b_M_noon_56, br_oiF (by omega) (by omega), zn_cl (by omega), h1, b_M_noon_57, p1, if_neg q1, b_M_noon_64, b_M_noon_65, b_M_noon_67, b_M_noon_68, b_M_noon_71, b_M_noon_72, br_oiF (by omega) (by omega), zn_cl (by omega), h2, b_M_noon_73, p2, if_pos q2, b_M_noon_76, b_M_noon_77, b_M_noon_81, zn_add, b_M_noon_82, if_neg q1, if_pos q2]
    · refine ⟨K + 2, by omega, ?_⟩
      rw [b_M_noon_50, b_M_noon_51, b_M_noon_52, b_M_noon_55, b_M_noon_56, br_oiF (by omega) (by omega), zn_cl (by omega), h1, b_M_noon_57, p1, if_neg q1, b_M_noon_64, b_M_noon_65, b_M_noon_67, b_M_noon_68, b_M_noon_71, b_M_noon_72, br_oiF (by omega) (by omega), zn_cl (by omega), h2, b_M_noon_73, p2, if_neg q2, b_M_noon_80, b_M_noon_81, zn_add, b_M_noon_82, if_neg q1, if_neg q2]
theorem nb_c {b : Nat} {x y i d f K : Nat} {h : Hs} {m : am_M} {x5 : Int32} {x6 : Option Value} (hi : i < 10) (h1 : m.1 138 i = zn x) (h2 : m.1 139 i = zn y) (p3 : ∀ t f : am_R, am_b (am_eq (zo (h y)) (zn x)) t f = if h y = some x then t else f) (p4 : ∀ t f : am_R, am_b (am_eq (zo (h x)) (zn y)) t f = if h x = some y then t else f) :
    ∃ K', K ≤ K' ∧ b_M_noon d f (K + 18) 84 [some (.ref 107), some (.int (zn b)), some (.int (zn i)), some (.int (zo (h x))), some (.int (zo (h y))), some (.int x5), x6] [] m = b_M_noon d f K' 118 [some (.ref 107), some (.int (zn b)), some (.int (zn i)), some (.int (zo (h x))), some (.int (zo (h y))), some (.int x5), some (.int (zn (sp_is x (h y) + sp_is y (h x))))] [] m := by
  unfold sp_is
  by_cases q1 : h y = some x
  · by_cases q2 : h x = some y
    · refine ⟨K, by omega, ?_⟩
      rw [b_M_noon_84, b_M_noon_86, b_M_noon_87, b_M_noon_90, b_M_noon_91, br_oiF (by omega) (by omega), zn_cl (by omega), h1, b_M_noon_92, p3, if_pos q1, b_M_noon_95, b_M_noon_96, b_M_noon_100, b_M_noon_101, b_M_noon_102, b_M_noon_105, b_M_noon_106, br_oiF (by omega) (by omega), zn_cl (by omega), h2, b_M_noon_107, p4, if_pos q2, b_M_noon_110, b_M_noon_111, b_M_noon_115, zn_add, b_M_noon_116, if_pos q1, if_pos q2]
    · refine ⟨K + 1, by omega, ?_⟩
      rw [b_M_noon_84, b_M_noon_86, b_M_noon_87, b_M_noon_90, b_M_noon_91, br_oiF (by omega) (by omega), zn_cl (by omega), h1, b_M_noon_92, p3, if_pos q1, b_M_noon_95, b_M_noon_96, b_M_noon_100, b_M_noon_101, b_M_noon_102, b_M_noon_105, b_M_noon_106, br_oiF (by omega) (by omega), zn_cl (by omega), h2, b_M_noon_107, p4, if_neg q2, b_M_noon_114, b_M_noon_115, zn_add, b_M_noon_116, if_pos q1, if_neg q2]
  · by_cases q2 : h x = some y
    · refine ⟨K + 1, by omega, ?_⟩
      rw [b_M_noon_84, b_M_noon_86, b_M_noon_87, b_M_noon_90, b_M_noon_91, br_oiF (by omega) (by omega), zn_cl (by omega), h1, b_M_noon_92, p3, if_neg q1, b_M_noon_99, b_M_noon_100, b_M_noon_101, b_M_noon_102, b_M_noon_105, b_M_noon_106, br_oiF (by omega) (by omega), zn_cl (by omega), h2, b_M_noon_107, p4, if_pos q2, b_M_noon_110, b_M_noon_111, b_M_noon_115, zn_add, b_M_noon_116, if_neg q1, if_pos q2]
    · refine ⟨K + 2, by omega, ?_⟩
      rw [b_M_noon_84, b_M_noon_86, b_M_noon_87, b_M_noon_90, b_M_noon_91, br_oiF (by omega) (by omega), zn_cl (by omega), h1, b_M_noon_92, p3, if_neg q1, b_M_noon_99, b_M_noon_100, b_M_noon_101, b_M_noon_102, b_M_noon_105, b_M_noon_106, br_oiF (by omega) (by omega), zn_cl (by omega), h2, b_M_noon_107, p4, if_neg q2, b_M_noon_114, b_M_noon_115, zn_add, b_M_noon_116, if_neg q1, if_neg q2]
theorem nb_d {b n x y i d f K now then1 : Nat} (hb1 : b < 2) {h : Hs} {w : List Nat} {m : am_M} (hn : n ≤ 5) (s : rd b n h w m) (hx : x < n) (hy : y < n) (hi : i < 10) (h1 : m.1 138 i = zn x) (h2 : m.1 139 i = zn y) (hnow : now ≤ 2) (hthen : then1 ≤ 2) :
    ∃ y3 y4 y5 y6, b_M_noon d f (K + 40) 118 [some (.ref 107), some (.int (zn b)), some (.int (zn i)), some (.int (zo (h x))), some (.int (zo (h y))), some (.int (zn now)), some (.int (zn then1))] [] m = r_M_noon_2 d f (zn b) (zn (i + 1)) y3 y4 y5 y6 (if now < then1 then (am_w (am_w m.1 132 (5 * b + x) (zo (h y))) 132 (5 * b + y) (zo (h x)), m.2) else m) := by
  refine ⟨some (.int (zo (h x))), some (.int (zo (h y))), some (.int (zn now)), some (.int (zn then1)), ?_⟩
  have e9 : (am_w m.1 132 (5 * b + x) (zo (h y)), m.2).1 139 i = zn y := by
    show am_w m.1 132 (5 * b + x) (zo (h y)) 139 i = zn y
    rw [w_ne (by omega), h2]
  by_cases q : now < then1
  · rw [b_M_noon_118, b_M_noon_120, b_M_noon_122, br_ltT q (by omega), b_M_noon_128, b_M_noon_129, b_M_noon_132, b_M_noon_133, b_M_noon_134, b_M_noon_135, b_M_noon_136, b_M_noon_139, b_M_noon_140, br_oiF (by omega) (by omega), zn_cl (by omega), h1, b_M_noon_141, zn_mul, zn_add, b_M_noon_142, b_M_noon_144, br_oiF (by omega) (by omega), zn_cl (by omega), b_M_noon_145, b_M_noon_146, b_M_noon_149, b_M_noon_150, b_M_noon_151, b_M_noon_152, b_M_noon_153, b_M_noon_156, b_M_noon_157, br_oiF (by omega) (by omega), zn_cl (by omega), e9, b_M_noon_158, zn_mul, zn_add, b_M_noon_159, b_M_noon_160, br_oiF (by omega) (by omega), zn_cl (by omega), b_M_noon_161, b_M_noon_164, zn_add, if_pos q]
  · rw [b_M_noon_118, b_M_noon_120, b_M_noon_122, br_ltF (by omega) (by omega), b_M_noon_125, b_M_noon_161, b_M_noon_164, zn_add, if_neg q]
theorem lq_meet {b : Nat} (hb1 : b < 2) {n x y i d f : Nat} {h : Hs} {w : List Nat} {m : am_M} {x3 x4 x5 x6 : Option Value} (hn : n ≤ 5) (s : rd b n h w m) (I : hwI n h w) (hx : x < n) (hy : y < n) (hxy : x ≠ y) (hi : i < 10) {L : Nat} (hL : m.1 107 55 = zn L) (hiL : i < L) (hL2 : L ≤ 10) (hno : m.1 107 60 = zn 0) (h1 : m.1 138 i = zn x) (h2 : m.1 139 i = zn y) :
    ∃ y3 y4 y5 y6 m', r_M_noon_2 d (f + 1) (zn b) (zn i) x3 x4 x5 x6 m = r_M_noon_2 d f (zn b) (zn (i + 1)) y3 y4 y5 y6 m' ∧ rd b n (sp_mt h x y) w m' ∧ frd b m m' := by
  obtain ⟨a2, a3⟩ := rd_swp hn s hx hy hxy
  have B : ∀ i, i < n → ∀ s, h i = some s → s < 2147483648 := fun i hi s e => by have := hw_h I hi e; omega
  have is2 : ∀ o p q r, sp_is o q + sp_is p r ≤ 2 := fun o p q r => by unfold sp_is; split <;> split <;> omega
  obtain ⟨K1, c1, c2⟩ := nb_b (h := h) (K := 951) (d := d) (f := f) (b := b) (x5 := x5) (x6 := x6) hi h1 h2 (fun t f => br_zoN (B x hx) (by omega)) (fun t f => br_zoN (B y hy) (by omega))
  obtain ⟨K1, rfl⟩ : ∃ q, K1 = q + 18 := ⟨K1 - 18, by omega⟩
  obtain ⟨K2, e1, e2⟩ := nb_c (h := h) (K := K1) (d := d) (f := f) (b := b) (x5 := zn (sp_is x (h x) + sp_is y (h y))) (x6 := x6) hi h1 h2 (fun t f => br_zoN (B y hy) (by omega)) (fun t f => br_zoN (B x hx) (by omega))
  obtain ⟨K2, rfl⟩ : ∃ q, K2 = q + 40 := ⟨K2 - 40, by omega⟩
  obtain ⟨y3, y4, y5, y6, g⟩ := nb_d (K := K2) (d := d) (f := f) hb1 hn s hx hy hi h1 h2 (is2 x y (h x) (h y)) (is2 x y (h y) (h x))
  have run := e_M_noon_2 d f (zn b) (zn i) x3 x4 x5 x6 m
  rw [show (999 + 1 : Nat) = 951 + 18 + 31 from rfl, nb_a hb1 hn s.1 hx hy hi hL hiL hL2 hno h1 h2, c2, e2, g] at run
  unfold sp_mt
  by_cases q : sp_is x (h x) + sp_is y (h y) < sp_is x (h y) + sp_is y (h x)
  · rw [if_pos q] at run ⊢; exact ⟨y3, y4, y5, y6, _, run, a2, a3⟩
  · rw [if_neg q] at run ⊢; exact ⟨y3, y4, y5, y6, m, run, s, frd_refl b m⟩
theorem lq_noon {b : Nat} (hb1 : b < 2) {T V : Td} (W : tw T V) {ord : List Nat} {U : Nat → Nat} {mt : List (Nat × Nat)} {day d : Nat} {w : List Nat} (S : sw T ord U mt day) (r : Nat) :
    ∀ (i f : Nat) (h : Hs) (x3 x4 x5 x6 : Option Value) (m : am_M), i + r = mt.length → r < f → rn b T ord U mt h w day m → hwI (T 0 0) h w →
    ∃ m', r_M_noon_2 d f (zn b) (zn i) x3 x4 x5 x6 m = some (none, m') ∧ rn b T ord U mt (sp_noon (mt.drop i) h) w day m' ∧ frd b m m' := by
  induction r with
  | zero =>
    intro i f h x3 x4 x5 x6 m h1 h2 s I
    have := S.ml
    obtain ⟨f, rfl⟩ : ∃ g, f = g + 1 := ⟨f - 1, by omega⟩
    refine ⟨m, ?_, ?_, frd_refl b m⟩
    · rw [e_M_noon_2, show (999 + 1 : Nat) = 995 + 1 + 1 + 1 + 1 + 1 from rfl, b_M_noon_2, b_M_noon_3, b_M_noon_4, b_M_noon_7]
      rcases s.ms with ⟨a1, a2, a3⟩ | ⟨a1, a2⟩
      · rw [a2, br_leT (by omega) (by omega), b_M_noon_167]
      · rw [br_le]
        split
        · rw [b_M_noon_167]
        · rw [show (995 + 1 : Nat) = 990 + 1 + 1 + 1 + 1 + 1 + 1 from rfl, b_M_noon_10, b_M_noon_11, b_M_noon_14, a1, br_eqF (by omega) (by omega) (by omega), b_M_noon_167]
    · rw [List.drop_eq_nil_of_le (by omega)]; exact s
  | succ r ih =>
    intro i f h x3 x4 x5 x6 m h1 h2 s I
    have := S.ml
    obtain ⟨f, rfl⟩ : ∃ g, f = g + 1 := ⟨f - 1, by omega⟩
    obtain ⟨hp1, hp2, hp3⟩ := S.ms _ (getD_mem mt i (0, 0) (by omega))
    have e0 : sp_noon (mt.drop i) h = sp_noon (mt.drop (i + 1)) (sp_mt h (mt.getD i (0, 0)).1 (mt.getD i (0, 0)).2) := by
      rw [drop_getD mt i (0, 0) (by omega)]; rfl
    have I2 : hwI (T 0 0) (sp_mt h (mt.getD i (0, 0)).1 (mt.getD i (0, 0)).2) w := by
      unfold sp_mt; split
      · exact hw_swp I hp1 hp2 hp3
      · exact I
    rw [e0]
    rcases s.ms with ⟨a1, a2, a3⟩ | ⟨a1, a2⟩
    · obtain ⟨q1, q2⟩ := a3 i (by omega)
      obtain ⟨y3, y4, y5, y6, m1, g1, g2, g3⟩ := lq_meet hb1 (d := d) (f := f) (x3 := x3) (x4 := x4) (x5 := x5) (x6 := x6) W.n s.dd I hp1 hp2 hp3 (by omega) a2 (by omega) (by omega) a1 q1 q2
      obtain ⟨m', b1, b2, b3⟩ := ih (i + 1) f _ y3 y4 y5 y6 m1 (by omega) (by omega) (s.to g2 g3) I2
      exact ⟨m', by rw [g1, b1], b2, frd_tr g3 b3⟩
    · rw [a2] at h1; exact absurd h1 (by simp)
theorem s_noonR {b : Nat} (hb1 : b < 2) {T V : Td} (W : tw T V) {ord : List Nat} {U : Nat → Nat} {mt : List (Nat × Nat)} {day d : Nat} {w : List Nat} {h : Hs} {m : am_M} (S : sw T ord U mt day) (s : rn b T ord U mt h w day m) (I : hwI (T 0 0) h w) :
    ∃ m', am_c (d + 1) y_M_noon [.ref 107, .int (zn b)] m = some (none, m') ∧ rn b T ord U mt (sp_noon mt h) w day m' ∧ frd b m m' := by
  have := S.ml
  rw [n_M_noon]
  exact lq_noon hb1 W S mt.length 0 29999 h none none none none m (by omega) (by omega) s I
theorem rn.next {b : Nat} {T : Td} {ord : List Nat} {U : Nat → Nat} {mt : List (Nat × Nat)} {h : Hs} {w : List Nat} {day : Nat} {m : am_M} (s : rn b T ord U mt h w day m) : rn b T ord U mt h w (day + 1) (am_w m.1 135 b (zn (day + 1)), m.2) ∧ fry b m (am_w m.1 135 b (zn (day + 1)), m.2) := by
  refine ⟨⟨?_, ?_, ?_, ?_, ?_, ?_, ?_, ?_⟩, ?_, ?_, ?_, ?_, ?_⟩
  · intro i hi; simp (disch := omega) only [w_ne, w_at, wl_ne, wl_at, wc_ne, wc_at, upd_at, upd_ne, upl_at, upl_ne, cpy_in0, zn_cl, zn_add, zn_mul, zn_sub, zn_pm, br_tt, br_ff, br_ltT, br_ltF, br_leT, br_leF, br_eqT, br_eqF, br_eqs, br_eqm, br_eqm', br_ltm, br_mlt, br_lem, br_mle, br_oiF, br_lgge, br_lgle, br_lggt, br_lglt, br_lgeq, br_zb, br_zb1, bV_s, bI_s, bL_s, zo_n, zo_s, s.hs]
  · simp (disch := omega) only [w_ne, w_at, wl_ne, wl_at, wc_ne, wc_at, upd_at, upd_ne, upl_at, upl_ne, cpy_in0, zn_cl, zn_add, zn_mul, zn_sub, zn_pm, br_tt, br_ff, br_ltT, br_ltF, br_leT, br_leF, br_eqT, br_eqF, br_eqs, br_eqm, br_eqm', br_ltm, br_mlt, br_lem, br_mle, br_oiF, br_lgge, br_lgle, br_lggt, br_lglt, br_lgeq, br_zb, br_zb1, bV_s, bI_s, bL_s, zo_n, zo_s, s.wl]
  · intro i hi; simp (disch := omega) only [w_ne, w_at, wl_ne, wl_at, wc_ne, wc_at, upd_at, upd_ne, upl_at, upl_ne, cpy_in0, zn_cl, zn_add, zn_mul, zn_sub, zn_pm, br_tt, br_ff, br_ltT, br_ltF, br_leT, br_leF, br_eqT, br_eqF, br_eqs, br_eqm, br_eqm', br_ltm, br_mlt, br_lem, br_mle, br_oiF, br_lgge, br_lgle, br_lggt, br_lglt, br_lgeq, br_zb, br_zb1, bV_s, bI_s, bL_s, zo_n, zo_s, s.ws]
  · simp (disch := omega) only [w_ne, w_at, wl_ne, wl_at, wc_ne, wc_at, upd_at, upd_ne, upl_at, upl_ne, cpy_in0, zn_cl, zn_add, zn_mul, zn_sub, zn_pm, br_tt, br_ff, br_ltT, br_ltF, br_leT, br_leF, br_eqT, br_eqF, br_eqs, br_eqm, br_eqm', br_ltm, br_mlt, br_lem, br_mle, br_oiF, br_lgge, br_lgle, br_lggt, br_lglt, br_lgeq, br_zb, br_zb1, bV_s, bI_s, bL_s, zo_n, zo_s]
  · simp (disch := omega) only [w_ne, w_at, wl_ne, wl_at, wc_ne, wc_at, upd_at, upd_ne, upl_at, upl_ne, cpy_in0, zn_cl, zn_add, zn_mul, zn_sub, zn_pm, br_tt, br_ff, br_ltT, br_ltF, br_leT, br_leF, br_eqT, br_eqF, br_eqs, br_eqm, br_eqm', br_ltm, br_mlt, br_lem, br_mle, br_oiF, br_lgge, br_lgle, br_lggt, br_lglt, br_lgeq, br_zb, br_zb1, bV_s, bI_s, bL_s, zo_n, zo_s]; exact s.os
  · simp (disch := omega) only [w_ne, w_at, wl_ne, wl_at, wc_ne, wc_at, upd_at, upd_ne, upl_at, upl_ne, cpy_in0, zn_cl, zn_add, zn_mul, zn_sub, zn_pm, br_tt, br_ff, br_ltT, br_ltF, br_leT, br_leF, br_eqT, br_eqF, br_eqs, br_eqm, br_eqm', br_ltm, br_mlt, br_lem, br_mle, br_oiF, br_lgge, br_lgle, br_lggt, br_lglt, br_lgeq, br_zb, br_zb1, bV_s, bI_s, bL_s, zo_n, zo_s]; exact s.hu
  · simp (disch := omega) only [w_ne, w_at, wl_ne, wl_at, wc_ne, wc_at, upd_at, upd_ne, upl_at, upl_ne, cpy_in0, zn_cl, zn_add, zn_mul, zn_sub, zn_pm, br_tt, br_ff, br_ltT, br_ltF, br_leT, br_leF, br_eqT, br_eqF, br_eqs, br_eqm, br_eqm', br_ltm, br_mlt, br_lem, br_mle, br_oiF, br_lgge, br_lgle, br_lggt, br_lglt, br_lgeq, br_zb, br_zb1, bV_s, bI_s, bL_s, zo_n, zo_s]; exact s.ms
  · intro i q1 q2; simp (disch := omega) only [w_ne, w_at, wl_ne, wl_at, wc_ne, wc_at, upd_at, upd_ne, upl_at, upl_ne, cpy_in0, zn_cl, zn_add, zn_mul, zn_sub, zn_pm, br_tt, br_ff, br_ltT, br_ltF, br_leT, br_leF, br_eqT, br_eqF, br_eqs, br_eqm, br_eqm', br_ltm, br_mlt, br_lem, br_mle, br_oiF, br_lgge, br_lgle, br_lggt, br_lglt, br_lgeq, br_zb, br_zb1, bV_s, bI_s, bL_s, zo_n, zo_s, s.h5]
  · intro c _ _ _; rfl
  · intro c c1 c2 c3 c4 c5; simp (disch := omega) only [w_ne, w_at, wl_ne, wl_at, wc_ne, wc_at, upd_at, upd_ne, upl_at, upl_ne, cpy_in0, zn_cl, zn_add, zn_mul, zn_sub, zn_pm, br_tt, br_ff, br_ltT, br_ltF, br_leT, br_leF, br_eqT, br_eqF, br_eqs, br_eqm, br_eqm', br_ltm, br_mlt, br_lem, br_mle, br_oiF, br_lgge, br_lgle, br_lggt, br_lglt, br_lgeq, br_zb, br_zb1, bV_s, bI_s, bL_s, zo_n, zo_s]
  · intro i i1; simp (disch := omega) only [w_ne, w_at, wl_ne, wl_at, wc_ne, wc_at, upd_at, upd_ne, upl_at, upl_ne, cpy_in0, zn_cl, zn_add, zn_mul, zn_sub, zn_pm, br_tt, br_ff, br_ltT, br_ltF, br_leT, br_leF, br_eqT, br_eqF, br_eqs, br_eqm, br_eqm', br_ltm, br_mlt, br_lem, br_mle, br_oiF, br_lgge, br_lgle, br_lggt, br_lglt, br_lgeq, br_zb, br_zb1, bV_s, bI_s, bL_s, zo_n, zo_s]
  · intro i hi; constructor <;> simp (disch := omega) only [w_ne, w_at, wl_ne, wl_at, wc_ne, wc_at, upd_at, upd_ne, upl_at, upl_ne, cpy_in0, zn_cl, zn_add, zn_mul, zn_sub, zn_pm, br_tt, br_ff, br_ltT, br_ltF, br_leT, br_leF, br_eqT, br_eqF, br_eqs, br_eqm, br_eqm', br_ltm, br_mlt, br_lem, br_mle, br_oiF, br_lgge, br_lgle, br_lggt, br_lglt, br_lgeq, br_zb, br_zb1, bV_s, bI_s, bL_s, zo_n, zo_s]
  · intro i hi; constructor <;> simp (disch := omega) only [w_ne, w_at, wl_ne, wl_at, wc_ne, wc_at, upd_at, upd_ne, upl_at, upl_ne, cpy_in0, zn_cl, zn_add, zn_mul, zn_sub, zn_pm, br_tt, br_ff, br_ltT, br_ltF, br_leT, br_leF, br_eqT, br_eqF, br_eqs, br_eqm, br_eqm', br_ltm, br_mlt, br_lem, br_mle, br_oiF, br_lgge, br_lgle, br_lggt, br_lglt, br_lgeq, br_zb, br_zb1, bV_s, bI_s, bL_s, zo_n, zo_s]
theorem lq_lamps {b : Nat} (hb1 : b < 2) {T V : Td} {E : Ev} (W : tw T V) (hE : evW E) {ord : List Nat} {U : Nat → Nat} {mt : List (Nat × Nat)} {day d : Nat} {x2 : Int32} (S : sw T ord U mt day) {ol : List Nat} {lo : Option Nat} (ho : ol.length = T 0 1) (hlo : ∀ a, lo = some a → a < 5) (hol : ∀ l, l ∈ ol → l < 5) (hord : ord = ol.filter (fun l => decide (some l ≠ lo))) (r : Nat) :
    ∀ (i f : Nat) (q : Hs × List Nat) (m : am_M), i + r = T 0 1 → r < f → rx T V E m → rn b T ord U mt q.1 q.2 day m → hwI (T 0 0) q.1 q.2 → (∀ i, i < T 0 1 → m.1 137 (5 * b + i) = zn (ol.getD i 0)) → m.1 107 64 = zo lo →
    ∃ m', r_M_goOn_11 (d + 5) f (zn b) x2 (zn i) m = some (none, m') ∧ rn b T ord U mt (sp_fin T V E U day ((ol.drop i).filter (fun l => decide (some l ≠ lo))) mt q).1 (sp_fin T V E U day ((ol.drop i).filter (fun l => decide (some l ≠ lo))) mt q).2 (day + 1) m' ∧ fry b m m' := by
  induction r with
  | zero =>
    intro i f q m h1 h2 c s I hos hlo1
    have := W.L
    obtain ⟨f, rfl⟩ : ∃ g, f = g + 1 := ⟨f - 1, by omega⟩
    obtain ⟨m1, a1, a2, a3⟩ := s_thieves hb1 W (d := d + 3) c s I
    obtain ⟨m2, b1, b2, b3⟩ := s_noonR hb1 W (d := d + 4) S a2 (thv_hw _ _ _ _ (by omega) I)
    obtain ⟨d1, d2⟩ := b2.next
    refine ⟨_, ?_, ?_, fry_tr (fry_tr a3.y b3.y) d2⟩
    rotate_left
    · rw [List.drop_eq_nil_of_le (by omega)]; exact d1
    · rw [e_M_goOn_11]
      simp (disch := omega) only [w_ne, w_at, wl_ne, wl_at, wc_ne, wc_at, upd_at, upd_ne, upl_at, upl_ne, cpy_in0, zn_cl, zn_add, zn_mul, zn_sub, zn_pm, br_tt, br_ff, br_ltT, br_ltF, br_leT, br_leF, br_eqT, br_eqF, br_eqs, br_eqm, br_eqm', br_ltm, br_mlt, br_lem, br_mle, br_oiF, br_lgge, br_lgle, br_lggt, br_lglt, br_lgeq, br_zb, br_zb1, bV_s, bI_s, bL_s, zo_n, zo_s, c.L, a1, b1, b2.dy]
  | succ r ih =>
    intro i f q m h1 h2 c s I hos hlo1
    have := W.L; have := W.n
    obtain ⟨f, rfl⟩ : ∃ g, f = g + 1 := ⟨f - 1, by omega⟩
    have hm : ol.getD i 0 ∈ ol := getD_mem ol i 0 (by omega)
    have hl5 := hol _ hm
    rw [drop_getD ol i 0 (by omega)]
    by_cases e : some (ol.getD i 0) = lo
    · obtain ⟨m', d1, d2, d3⟩ := ih (i + 1) f q m (by omega) (by omega) c s I hos hlo1
      rw [List.filter_cons_of_neg (by rw [decide_eq_true_eq]; exact fun hh => hh e)]
      refine ⟨m', ?_, d2, d3⟩
      rw [e_M_goOn_11]
      simp (disch := omega) only [w_ne, w_at, wl_ne, wl_at, wc_ne, wc_at, upd_at, upd_ne, upl_at, upl_ne, cpy_in0, zn_cl, zn_add, zn_mul, zn_sub, zn_pm, br_tt, br_ff, br_ltT, br_ltF, br_leT, br_leF, br_eqT, br_eqF, br_eqs, br_eqm, br_eqm', br_ltm, br_mlt, br_lem, br_mle, br_oiF, br_lgge, br_lgle, br_lggt, br_lglt, br_lgeq, br_zb, br_zb1, bV_s, bI_s, bL_s, zo_n, zo_s, c.L, hos, hlo1, ← e, d1]
    · have hl : ol.getD i 0 < T 0 1 := S.os _ (by rw [hord, List.mem_filter]; exact ⟨hm, by simpa using e⟩)
      obtain ⟨m1, a1, a2, a3⟩ := s_lights hb1 W hE (d := d) S.hu hl c s I
      obtain ⟨m', d1, d2, d3⟩ := ih (i + 1) f (sp_light T V U (sp_near T V E U day (ol.getD i 0)) (ol.getD i 0) (T 0 0) q.1 q.2) m1 (by omega) (by omega) (c.fy a3) a2 (light_hw _ _ _ I) (by rw [a3.2.1 137 (by omega) (by omega) (by omega) (by omega) (by omega)]; exact hos) (by rw [a3.2.2.1 64 (by omega)]; exact hlo1)
      rw [List.filter_cons_of_pos (by simpa using e)]
      refine ⟨m', ?_, d2, fry_tr a3 d3⟩
      have hz : zn (ol.getD i 0) ≠ zo lo := by
        rw [← zo_s]; intro q
        exact e ((zo_inj (by intro a ha; cases ha; omega) (by intro a ha; have := hlo a ha; omega)).mp q)
      rw [e_M_goOn_11]
      simp (disch := omega) only [w_ne, w_at, wl_ne, wl_at, wc_ne, wc_at, upd_at, upd_ne, upl_at, upl_ne, cpy_in0, zn_cl, zn_add, zn_mul, zn_sub, zn_pm, br_tt, br_ff, br_ltT, br_ltF, br_leT, br_leF, br_eqT, br_eqF, br_eqs, br_eqm, br_eqm', br_ltm, br_mlt, br_lem, br_mle, br_oiF, br_lgge, br_lgle, br_lggt, br_lglt, br_lgeq, br_zb, br_zb1, bV_s, bI_s, bL_s, zo_n, zo_s, c.L, hos, hlo1, br_eq, if_neg hz, a1, d1]
theorem s_goOn {b : Nat} (hb1 : b < 2) {T V : Td} {E : Ev} (W : tw T V) (hE : evW E) {ord : List Nat} {U : Nat → Nat} {mt : List (Nat × Nat)} {day d : Nat} {h : Hs} {w : List Nat} {m : am_M} (S : sw T ord U mt day) (c : rx T V E m) (s : rn b T ord U mt h w day m) (I : hwI (T 0 0) h w) :
    ∃ m', am_c (d + 6) y_M_goOn [.ref 107, .int (zn b), .int (zn 0)] m = some (none, m') ∧ rn b T ord U mt (sp_pass T V E U day ord mt h w).1 (sp_pass T V E U day ord mt h w).2 (day + 1) m' ∧ fry b m m' := by
  have := W.L
  obtain ⟨m1, a1, a2, a3⟩ := s_dusk hb1 W hE (d := d) c s I
  obtain ⟨ol, lo, o1, o2, o3, o4, o5, o6⟩ := a2.os
  obtain ⟨m', d1, d2, d3⟩ := lq_lamps hb1 W hE (d := d) (x2 := zn 0) S o1 o4 o5 o6 (T 0 1) 0 29999 (sp_gat T V E day h w) m1 (by omega) (by omega) (c.fy a3) a2 (gat_hw I) o2 o3
  refine ⟨m', ?_, ?_, fry_tr a3 d3⟩
  · rw [n_M_goOn]
    simp (disch := omega) only [w_ne, w_at, wl_ne, wl_at, wc_ne, wc_at, upd_at, upd_ne, upl_at, upl_ne, cpy_in0, zn_cl, zn_add, zn_mul, zn_sub, zn_pm, br_tt, br_ff, br_ltT, br_ltF, br_leT, br_leF, br_eqT, br_eqF, br_eqs, br_eqm, br_eqm', br_ltm, br_mlt, br_lem, br_mle, br_oiF, br_lgge, br_lgle, br_lggt, br_lglt, br_lgeq, br_zb, br_zb1, bV_s, bI_s, bL_s, zo_n, zo_s, a1, d1]
  · rw [List.drop_zero, ← o6] at d2; exact d2
theorem s_goOnFog {b : Nat} (hb1 : b < 2) {T V : Td} {E : Ev} (W : tw T V) (hE : evW E) {ord : List Nat} {U : Nat → Nat} {mt : List (Nat × Nat)} {day d : Nat} {h : Hs} {w : List Nat} {m : am_M} (S : sw T ord U mt day) (c : rx T V E m) (s : rn b T ord U mt h w day m) (I : hwI (T 0 0) h w) :
    ∃ m', am_c (d + 6) y_M_goOn [.ref 107, .int (zn b), .int (zn 1)] m = some (none, m') ∧ rn b T ord U mt (sp_fog T V E day mt h w).1 (sp_fog T V E day mt h w).2 (day + 1) m' ∧ fry b m m' := by
  obtain ⟨m1, a1, a2, a3⟩ := s_dusk hb1 W hE (d := d) c s I
  obtain ⟨m2, b1, b2, b3⟩ := s_noonR hb1 W (d := d + 4) S a2 (gat_hw I)
  obtain ⟨d1, d2⟩ := b2.next
  refine ⟨_, ?_, d1, fry_tr (fry_tr a3 b3.y) d2⟩
  rw [n_M_goOn]
  simp (disch := omega) only [w_ne, w_at, wl_ne, wl_at, wc_ne, wc_at, upd_at, upd_ne, upl_at, upl_ne, cpy_in0, zn_cl, zn_add, zn_mul, zn_sub, zn_pm, br_tt, br_ff, br_ltT, br_ltF, br_leT, br_leF, br_eqT, br_eqF, br_eqs, br_eqm, br_eqm', br_ltm, br_mlt, br_lem, br_mle, br_oiF, br_lgge, br_lgle, br_lggt, br_lglt, br_lgeq, br_zb, br_zb1, bV_s, bI_s, bL_s, zo_n, zo_s, a1, b1, b2.dy]
