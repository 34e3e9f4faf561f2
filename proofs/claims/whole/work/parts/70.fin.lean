/-! a day's end changes no longs; orders of lamps -/
def fdx (k : Nat) (m m' : am_M) : Prop := m'.2 = m.2 ∧ (∀ c, c ≠ k → c ≠ k + 1 → c ≠ k + 2 → m'.1 c = m.1 c) ∧ ∀ i, i ≠ 3 → i ≠ 10 → m'.1 k i = m.1 k i
theorem fdx_tr {k : Nat} {m m1 m2 : am_M} (h : fdx k m m1) (g : fdx k m1 m2) : fdx k m m2 :=
  ⟨g.1.trans h.1, fun c a b e => (g.2.1 c a b e).trans (h.2.1 c a b e), fun i e f => (g.2.2 i e f).trans (h.2.2 i e f)⟩
theorem fsd.x {k : Nat} {m m' : am_M} (f : fsd k m m') : fdx k m m' := ⟨f.1, f.2.1, fun i e _ => f.2.2 i e⟩
theorem fdx.y {k : Nat} {m m' : am_M} (f : fdx k m m') : fdy k m m' := ⟨fun c _ _ _ _ => by rw [f.1], f.2.1, f.2.2⟩
theorem sn.nextx {k : Nat} {T : Td} {ord : List Nat} {U : Nat → Nat} {mt : List (Nat × Nat)} {h : Hs} {w : List Nat} {day : Nat} {m : am_M} (s : sn k T ord U mt h w day m) : sn k T ord U mt h w (day + 1) (am_w m.1 k 10 (zn (day + 1)), m.2) ∧ fdx k m (am_w m.1 k 10 (zn (day + 1)), m.2) := ⟨s.next.1, rfl, s.next.2.2.1, s.next.2.2.2⟩
theorem lp_thvx {k : Nat} (hk : sc_k k) {T V : Td} {E : Ev} (W : tw T V) {ord : List Nat} {U : Nat → Nat} {mt : List (Nat × Nat)} {day d : Nat} (S : sw T ord U mt day) (r : Nat) :
    ∀ (t f : Nat) (h : Hs) (w : List Nat) (m : am_M), t + r = T 0 0 → r < f → cx T V E m → sn k T ord U mt h w day m → hwI (T 0 0) h w →
    ∃ m', r_Day_finish_29 k (d + 3) f (zn t) m = some (none, m') ∧ sn k T ord U mt (sp_noon mt (sp_thv T V r t h w).1) (sp_thv T V r t h w).2 (day + 1) m' ∧ fdx k m m' := by
  induction r with
  | zero =>
    intro t f h w m h1 h2 c s I
    have := W.n
    obtain ⟨f, rfl⟩ : ∃ g, f = g + 1 := ⟨f - 1, by omega⟩
    obtain ⟨m1, a1, a2, a3⟩ := s_noon hk W (d := d) S s I
    obtain ⟨b1, b2⟩ := a2.nextx
    refine ⟨_, ?_, b1, fdx_tr a3.x b2⟩
    rw [e_Day_finish_29 hk]
    simp (disch := omega) only [w_ne, w_at, wl_ne, wl_at, wc_ne, wc_at, upd_at, upd_ne, upl_at, upl_ne, cpy_in0, zn_cl, zn_add, zn_mul, zn_sub, zn_pm, br_tt, br_ff, br_ltT, br_ltF, br_leT, br_leF, br_eqT, br_eqF, br_eqs, br_eqm, br_eqm', br_ltm, br_mlt, br_lem, br_mle, br_oiF, br_lgge, br_lgle, br_lggt, br_lglt, br_lgeq, br_zb, br_zb1, bV_s, bI_s, bL_s, zo_n, zo_s, c.n, a1, a2.dy]
  | succ r ih =>
    intro t f h w m h1 h2 c s I
    have := W.n; have := hw_len I; have := W.hw t (by omega)
    obtain ⟨f, rfl⟩ : ∃ g, f = g + 1 := ⟨f - 1, by omega⟩
    rw [sp_thv]
    by_cases q1 : V 1 t = 1
    · cases q2 : h t with
      | some q =>
        have := hw_h I (by omega) q2
        obtain ⟨m', b1, b2, b3⟩ := ih (t + 1) f h w m (by omega) (by omega) c s I
        simp only [reduceCtorEq, false_and, and_false, if_false]
        refine ⟨m', ?_, b2, b3⟩
        rw [e_Day_finish_29 hk]
        simp (disch := omega) only [w_ne, w_at, wl_ne, wl_at, wc_ne, wc_at, upd_at, upd_ne, upl_at, upl_ne, cpy_in0, zn_cl, zn_add, zn_mul, zn_sub, zn_pm, br_tt, br_ff, br_ltT, br_ltF, br_leT, br_leF, br_eqT, br_eqF, br_eqs, br_eqm, br_eqm', br_ltm, br_mlt, br_lem, br_mle, br_oiF, br_lgge, br_lgle, br_lggt, br_lglt, br_lgeq, br_zb, br_zb1, bV_s, bI_s, bL_s, zo_n, zo_s, c.n, c.hw, s.hs, q1, q2, b1]
      | none =>
        have e0 := s_greatest hk W (d := d + 1) c (by omega) s.wl s.ws (fun i hi => hw_g I hi)
        by_cases q3 : 0 < w.length
        · have hg := gr_lt (T := T) q3
          obtain ⟨m1, a1, a2, a3⟩ := s_take hk (d := d + 2) (by omega) s.dd hg
          obtain ⟨b1, b2⟩ := sd_set (o := some (w.getD (sp_gr T w) 0)) a2 (t := t) (by omega)
          have f3 := fsd_tr a3 b2
          obtain ⟨m', c1, c2, c3⟩ := ih (t + 1) f _ _ _ (by omega) (by omega) (c.fs hk f3) (s.to b1 f3) (hw_take I (by omega) q2 hg)
          simp only [q1, q3, and_self, if_true]
          refine ⟨m', ?_, c2, fdx_tr f3.x c3⟩
          rw [e_Day_finish_29 hk]
          simp (disch := omega) only [w_ne, w_at, wl_ne, wl_at, wc_ne, wc_at, upd_at, upd_ne, upl_at, upl_ne, cpy_in0, zn_cl, zn_add, zn_mul, zn_sub, zn_pm, br_tt, br_ff, br_ltT, br_ltF, br_leT, br_leF, br_eqT, br_eqF, br_eqs, br_eqm, br_eqm', br_ltm, br_mlt, br_lem, br_mle, br_oiF, br_lgge, br_lgle, br_lggt, br_lglt, br_lgeq, br_zb, br_zb1, bV_s, bI_s, bL_s, zo_n, zo_s, c.n, c.hw, s.hs, q1, q2, e0, a1]
          exact c1
        · have hl0 : w.length = 0 := by omega
          obtain ⟨b1, b2⟩ := sd_set (o := none) s.dd (t := t) (by omega)
          have hset : sp_set h t none = h := by
            funext i; unfold sp_set; by_cases e : i = t
            · rw [if_pos e, e, q2]
            · rw [if_neg e]
          rw [hset] at b1
          obtain ⟨m', c1, c2, c3⟩ := ih (t + 1) f _ _ _ (by omega) (by omega) (c.fs hk b2) (s.to b1 b2) I
          simp only [q1, q3, and_false, if_false]
          have hgr : sp_gr T w = 0 := by unfold sp_gr; rw [hl0]; rfl
          rw [hgr] at e0
          refine ⟨m', ?_, c2, fdx_tr b2.x c3⟩
          rw [e_Day_finish_29 hk]
          simp (disch := omega) only [w_ne, w_at, wl_ne, wl_at, wc_ne, wc_at, upd_at, upd_ne, upl_at, upl_ne, cpy_in0, zn_cl, zn_add, zn_mul, zn_sub, zn_pm, br_tt, br_ff, br_ltT, br_ltF, br_leT, br_leF, br_eqT, br_eqF, br_eqs, br_eqm, br_eqm', br_ltm, br_mlt, br_lem, br_mle, br_oiF, br_lgge, br_lgle, br_lggt, br_lglt, br_lgeq, br_zb, br_zb1, bV_s, bI_s, bL_s, zo_n, zo_s, c.n, c.hw, s.hs, q1, q2, e0]
          rw [n_Scene_takeFromWall hk]
          simp (disch := omega) only [w_ne, w_at, wl_ne, wl_at, wc_ne, wc_at, upd_at, upd_ne, upl_at, upl_ne, cpy_in0, zn_cl, zn_add, zn_mul, zn_sub, zn_pm, br_tt, br_ff, br_ltT, br_ltF, br_leT, br_leF, br_eqT, br_eqF, br_eqs, br_eqm, br_eqm', br_ltm, br_mlt, br_lem, br_mle, br_oiF, br_lgge, br_lgle, br_lggt, br_lglt, br_lgeq, br_zb, br_zb1, bV_s, bI_s, bL_s, zo_n, zo_s, s.wl, hl0]
          exact c1
    · obtain ⟨m', b1, b2, b3⟩ := ih (t + 1) f h w m (by omega) (by omega) c s I
      simp only [q1, false_and, if_false]
      refine ⟨m', ?_, b2, b3⟩
      rw [e_Day_finish_29 hk]
      simp (disch := omega) only [w_ne, w_at, wl_ne, wl_at, wc_ne, wc_at, upd_at, upd_ne, upl_at, upl_ne, cpy_in0, zn_cl, zn_add, zn_mul, zn_sub, zn_pm, br_tt, br_ff, br_ltT, br_ltF, br_leT, br_leF, br_eqT, br_eqF, br_eqs, br_eqm, br_eqm', br_ltm, br_mlt, br_lem, br_mle, br_oiF, br_lgge, br_lgle, br_lggt, br_lglt, br_lgeq, br_zb, br_zb1, bV_s, bI_s, bL_s, zo_n, zo_s, c.n, c.hw, b1]
theorem lp_lampsx {k : Nat} (hk : sc_k k) {T V : Td} {E : Ev} (W : tw T V) {ord : List Nat} {U : Nat → Nat} {mt : List (Nat × Nat)} {day d : Nat} (S : sw T ord U mt day) (r : Nat) :
    ∀ (i f : Nat) (q : Hs × List Nat) (m : am_M), i + r = ord.length → r + 10 < f → cx T V E m → sn k T ord U mt q.1 q.2 day m → hwI (T 0 0) q.1 q.2 → (∀ l t, l < T 0 1 → t < T 0 0 → m.2 51 (l * 5 + t) = sp_near T V E U day l t) →
    ∃ m', r_Day_finish_2 k (d + 3) f (zn i) m = some (none, m') ∧ sn k T ord U mt (sp_fin T V E U day (ord.drop i) mt q).1 (sp_fin T V E U day (ord.drop i) mt q).2 (day + 1) m' ∧ fdx k m m' := by
  induction r with
  | zero =>
    intro i f q m h1 h2 c s I hg
    have := S.ol; have := W.n
    obtain ⟨f, rfl⟩ : ∃ g, f = g + 1 := ⟨f - 1, by omega⟩
    obtain ⟨m', b1, b2, b3⟩ := lp_thvx hk W (d := d) S (T 0 0) 0 f q.1 q.2 m (by omega) (by omega) c s I
    refine ⟨m', ?_, ?_, b3⟩
    · rw [e_Day_finish_2 hk]
      simp (disch := omega) only [w_ne, w_at, wl_ne, wl_at, wc_ne, wc_at, upd_at, upd_ne, upl_at, upl_ne, cpy_in0, zn_cl, zn_add, zn_mul, zn_sub, zn_pm, br_tt, br_ff, br_ltT, br_ltF, br_leT, br_leF, br_eqT, br_eqF, br_eqs, br_eqm, br_eqm', br_ltm, br_mlt, br_lem, br_mle, br_oiF, br_lgge, br_lgle, br_lggt, br_lglt, br_lgeq, br_zb, br_zb1, bV_s, bI_s, bL_s, zo_n, zo_s, s.ol, b1]
    · rw [List.drop_eq_nil_of_le (by omega)]; exact b2
  | succ r ih =>
    intro i f q m h1 h2 c s I hg
    have := S.ol; have := W.n; have := W.L
    obtain ⟨f, rfl⟩ : ∃ g, f = g + 1 := ⟨f - 1, by omega⟩
    have hl := S.os _ (getD_mem ord i 0 (by omega))
    obtain ⟨m1, a1, a2, a3⟩ := s_light hk W (d := d) S.hu hl c s I (hg _ · hl)
    obtain ⟨m', b1, b2, b3⟩ := ih (i + 1) f (sp_light T V U (sp_near T V E U day (ord.getD i 0)) (ord.getD i 0) (T 0 0) q.1 q.2) m1 (by omega) (by omega) (c.fs hk a3) a2 (light_hw _ _ _ I) (by rw [a3.1]; exact hg)
    refine ⟨m', ?_, ?_, fdx_tr a3.x b3⟩
    · rw [e_Day_finish_2 hk]
      simp (disch := omega) only [w_ne, w_at, wl_ne, wl_at, wc_ne, wc_at, upd_at, upd_ne, upl_at, upl_ne, cpy_in0, zn_cl, zn_add, zn_mul, zn_sub, zn_pm, br_tt, br_ff, br_ltT, br_ltF, br_leT, br_leF, br_eqT, br_eqF, br_eqs, br_eqm, br_eqm', br_ltm, br_mlt, br_lem, br_mle, br_oiF, br_lgge, br_lgle, br_lggt, br_lglt, br_lgeq, br_zb, br_zb1, bV_s, bI_s, bL_s, zo_n, zo_s, s.ol, s.os, a1, b1]
    · rw [drop_getD ord i 0 (by omega)]; exact b2
theorem s_finishx {k : Nat} (hk : sc_k k) {T V : Td} {E : Ev} (W : tw T V) {ord : List Nat} {U : Nat → Nat} {mt : List (Nat × Nat)} {day d : Nat} {h : Hs} {w : List Nat} {m : am_M} (S : sw T ord U mt day) (c : cx T V E m) (s : sn k T ord U mt h w day m) (I : hwI (T 0 0) h w) (hg : ∀ l t, l < T 0 1 → t < T 0 0 → m.2 51 (l * 5 + t) = sp_near T V E U day l t) :
    ∃ m', am_c (d + 4) y_Day_finish [.ref 26, .ref k] m = some (none, m') ∧ sn k T ord U mt (sp_fin T V E U day ord mt (h, w)).1 (sp_fin T V E U day ord mt (h, w)).2 (day + 1) m' ∧ fdx k m m' := by
  have := S.ol
  rw [n_Day_finish hk]
  exact lp_lampsx hk W S ord.length 0 29999 (h, w) m (by omega) (by omega) c s I hg
