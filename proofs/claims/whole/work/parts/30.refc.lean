/-! the day of the reference: lamps -/
theorem lq_given {b : Nat} (hb1 : b < 2) {T V : Td} {E : Ev} (W : tw T V) {d t : Nat} {w : List Nat} {m : am_M} (c : rx T V E m) (hw : w.length ≤ 5) (hl : m.1 134 b = zn w.length) (hr : ∀ i, i < w.length → m.1 133 (5 * b + i) = zn (w.getD i 0)) (hb : ∀ i, i < w.length → w.getD i 0 < T 0 0) (ht : t < T 0 0) (r : Nat) :
    ∀ (i f q : Nat), i + r = w.length → r < f → q < w.length →
    r_M_givenTo_31 (d + 1) f (zn b) (zn t) (zn q) (zn i) m = some (some (.int (zn (sp_amin (fun i => sp_ap (T 2 (w.getD i 0)) (T 2 t)) r i q))), m) := by
  induction r with
  | zero =>
    intro i f q h1 h2 h3
    obtain ⟨f, rfl⟩ : ∃ g, f = g + 1 := ⟨f - 1, by omega⟩
    rw [sp_amin, e_M_givenTo_31]
    simp (disch := omega) only [w_ne, w_at, wl_ne, wl_at, wc_ne, wc_at, upd_at, upd_ne, upl_at, upl_ne, cpy_in0, zn_cl, zn_add, zn_mul, zn_sub, zn_pm, br_tt, br_ff, br_ltT, br_ltF, br_leT, br_leF, br_eqT, br_eqF, br_eqs, br_eqm, br_eqm', br_ltm, br_mlt, br_lem, br_mle, br_oiF, br_lgge, br_lgle, br_lggt, br_lglt, br_lgeq, br_zb, br_zb1, bV_s, bI_s, bL_s, zo_n, zo_s, hl]
  | succ r ih =>
    intro i f q h1 h2 h3
    have := W.n; have p1 := hb i (by omega); have p2 := hb q h3; have a1 := W.sz t ht; have a2 := W.sz _ p1; have a3 := W.sz _ p2
    have a4 := sp_ap_lt a2 a1; have a5 := sp_ap_lt a3 a1
    obtain ⟨f, rfl⟩ : ∃ g, f = g + 1 := ⟨f - 1, by omega⟩
    have e0 : am_c (d + 1) y_M_apart [.int (zn (T 2 (w.getD i 0))), .int (zn (T 2 t))] m = _ := s_apart (by omega) (by omega)
    have e1 : am_c (d + 1) y_M_apart [.int (zn (T 2 (w.getD q 0))), .int (zn (T 2 t))] m = _ := s_apart (by omega) (by omega)
    rw [sp_amin, e_M_givenTo_31]
    simp (disch := omega) only [w_ne, w_at, wl_ne, wl_at, wc_ne, wc_at, upd_at, upd_ne, upl_at, upl_ne, cpy_in0, zn_cl, zn_add, zn_mul, zn_sub, zn_pm, br_tt, br_ff, br_ltT, br_ltF, br_leT, br_leF, br_eqT, br_eqF, br_eqs, br_eqm, br_eqm', br_ltm, br_mlt, br_lem, br_mle, br_oiF, br_lgge, br_lgle, br_lggt, br_lglt, br_lgeq, br_zb, br_zb1, bV_s, bI_s, bL_s, zo_n, zo_s, hl, hr, c.sz, e0, e1]
    by_cases e : sp_ap (T 2 (w.getD i 0)) (T 2 t) < sp_ap (T 2 (w.getD q 0)) (T 2 t)
    · rw [br_leF e (by omega), ih (i + 1) f i (by omega) (by omega) (by omega), if_pos e]
    · rw [br_leT (by omega) (by omega), ih (i + 1) f q (by omega) (by omega) h3, if_neg e]
theorem s_givenTo {b : Nat} (hb1 : b < 2) {T V : Td} {E : Ev} (W : tw T V) {d t : Nat} {w : List Nat} {m : am_M} (c : rx T V E m) (hw : w.length ≤ 5) (h0 : 0 < w.length) (hl : m.1 134 b = zn w.length) (hr : ∀ i, i < w.length → m.1 133 (5 * b + i) = zn (w.getD i 0)) (hb : ∀ i, i < w.length → w.getD i 0 < T 0 0) (ht : t < T 0 0) :
    am_c (d + 2) y_M_givenTo [.ref 107, .int (zn b), .int (zn t)] m = some (some (.int (zn (sp_ch T V w t))), m) := by
  have := W.n; have := W.rl
  rw [n_M_givenTo]
  unfold sp_ch
  by_cases e1 : V 3 0 = 0
  · simp (disch := omega) only [w_ne, w_at, wl_ne, wl_at, wc_ne, wc_at, upd_at, upd_ne, upl_at, upl_ne, cpy_in0, zn_cl, zn_add, zn_mul, zn_sub, zn_pm, br_tt, br_ff, br_ltT, br_ltF, br_leT, br_leF, br_eqT, br_eqF, br_eqs, br_eqm, br_eqm', br_ltm, br_mlt, br_lem, br_mle, br_oiF, br_lgge, br_lgle, br_lggt, br_lglt, br_lgeq, br_zb, br_zb1, bV_s, bI_s, bL_s, zo_n, zo_s, c.rl, if_pos e1]
  · by_cases e2 : V 3 0 = 1
    · simp (disch := omega) only [w_ne, w_at, wl_ne, wl_at, wc_ne, wc_at, upd_at, upd_ne, upl_at, upl_ne, cpy_in0, zn_cl, zn_add, zn_mul, zn_sub, zn_pm, br_tt, br_ff, br_ltT, br_ltF, br_leT, br_leF, br_eqT, br_eqF, br_eqs, br_eqm, br_eqm', br_ltm, br_mlt, br_lem, br_mle, br_oiF, br_lgge, br_lgle, br_lggt, br_lglt, br_lgeq, br_zb, br_zb1, bV_s, bI_s, bL_s, zo_n, zo_s, c.rl, if_neg e1, if_pos e2, hl]
    · simp (disch := omega) only [w_ne, w_at, wl_ne, wl_at, wc_ne, wc_at, upd_at, upd_ne, upl_at, upl_ne, cpy_in0, zn_cl, zn_add, zn_mul, zn_sub, zn_pm, br_tt, br_ff, br_ltT, br_ltF, br_leT, br_leF, br_eqT, br_eqF, br_eqs, br_eqm, br_eqm', br_ltm, br_mlt, br_lem, br_mle, br_oiF, br_lgge, br_lgle, br_lggt, br_lglt, br_lgeq, br_zb, br_zb1, bV_s, bI_s, bL_s, zo_n, zo_s, c.rl, if_neg e1, if_neg e2]
      exact lq_given hb1 W c hw hl hr hb ht (w.length - 1) 1 29999 0 (by omega) (by omega) h0
theorem lq_lt {b : Nat} (hb1 : b < 2) {T V : Td} {E : Ev} (W : tw T V) (hE : evW E) {ord : List Nat} {U : Nat → Nat} {mt : List (Nat × Nat)} {h : Hs} {w : List Nat} {day d l : Nat} (hb : ∀ i s, i < T 0 0 → h i = some s → s < T 0 0) (hU : ∀ l, l < T 0 1 → U l < 30) (hl : l < T 0 1) (r : Nat) :
    ∀ (i f : Nat) (acc : Option Nat) (x5 : Int64) (x8 : Option Value) (m : am_M), i + r = T 0 0 → r < f → rx T V E m → rn b T ord U mt h w day m → (∀ j, acc = some j → j < T 0 0 ∧ x5 = sp_near T V E U day l j) →
    ∃ f' x5' x8' m', r_M_lights_24 (d + 4) f (zn b) (zn l) (zn 1) (zo acc) x5 (zn i) x8 m = r_M_lights_24 (d + 4) (f' + 1) (zn b) (zn l) (zn 1) (zo (sp_min (sp_wt T V U l h) (sp_near T V E U day l) r i acc)) x5' (zn (T 0 0)) x8' m' ∧ f ≤ f' + r + 1 ∧ frl m m' := by
  induction r with
  | zero =>
    intro i f acc x5 x8 m h1 h2 c s h3
    refine ⟨f - 1, x5, x8, m, ?_, by omega, frl_refl m⟩
    rw [sp_min, Nat.sub_add_cancel (by omega)]
    have : i = T 0 0 := by omega
    rw [this]
  | succ r ih =>
    intro i f acc x5 x8 m h1 h2 c s h3
    have := W.n; have := W.L; have p1 := W.pl i (by omega); have := W.hw i (by omega); have := W.rc l hl; have p2 := hU l hl
    have hap : sp_ap (T 1 i) (U l) < 30 := sp_ap_lt p1 p2
    obtain ⟨f, rfl⟩ : ∃ g, f = g + 1 := ⟨f - 1, by omega⟩
    rw [sp_min]
    have key : ∀ acc' y5 y8 m1, frl m m1 → (∀ j, acc' = some j → j < T 0 0 ∧ y5 = sp_near T V E U day l j) → acc' = (if sp_wt T V U l h i = true then sp_bt (sp_near T V E U day l) i acc else acc) → r_M_lights_24 (d + 4) (f + 1) (zn b) (zn l) (zn 1) (zo acc) x5 (zn i) x8 m = r_M_lights_24 (d + 4) f (zn b) (zn l) (zn 1) (zo acc') y5 (zn (i + 1)) y8 m1 →
        ∃ f' x5' x8' m', r_M_lights_24 (d + 4) (f + 1) (zn b) (zn l) (zn 1) (zo acc) x5 (zn i) x8 m = r_M_lights_24 (d + 4) (f' + 1) (zn b) (zn l) (zn 1) (zo (sp_min (sp_wt T V U l h) (sp_near T V E U day l) r (i + 1) (if sp_wt T V U l h i = true then sp_bt (sp_near T V E U day l) i acc else acc))) x5' (zn (T 0 0)) x8' m' ∧ f + 1 ≤ f' + (r + 1) + 1 ∧ frl m m' := by
      intro acc' y5 y8 m1 q0 q1 q2 q3
      obtain ⟨f', x5', x8', m', b1, b2, b3⟩ := ih (i + 1) f acc' y5 y8 m1 (by omega) (by omega) (c.fl q0) (s.fl q0) q1
      exact ⟨f', x5', x8', m', by rw [q3, b1, ← q2], by omega, frl_tr q0 b3⟩
    have e0 := s_howOf W c (d := d + 3) (t := i) (by omega)
    have e4 := s_placeOf s (d := d + 3) (l := l) W.L hl
    have e5 : am_c (d + 4) y_M_apart [.int (zn (T 1 i)), .int (zn (U l))] m = _ := s_apart (d := d + 3) (by omega) (by omega)
    rcases opt_c (h i) with e | ⟨q, e⟩
    · by_cases e2 : V 1 i = 0
      · by_cases e3 : sp_ap (T 1 i) (U l) ≤ V 2 l
        · have e1 : sp_wt T V U l h i = true := by unfold sp_wt; simp [e, e2, e3]
          obtain ⟨m1, a1, a2⟩ := s_nearOf W hE c s hU hb1 hb (d := d) (t := i) (l := l) (by omega) hl
          rw [nv_near e] at a1
          rcases opt_c acc with ha | ⟨j, ha⟩
          · subst ha
            refine key (some i) (sp_near T V E U day l i) (some (.long (sp_near T V E U day l i))) m1 a2 (by intro j hj; cases hj; exact ⟨by omega, rfl⟩) (by rw [e1]; rfl) ?_
            rw [e_M_lights_24]
            rcases c.rc l hl with ⟨r1, r2⟩ | ⟨r1, r2⟩
            · simp (disch := omega) only [w_ne, w_at, wl_ne, wl_at, wc_ne, wc_at, upd_at, upd_ne, upl_at, upl_ne, cpy_in0, zn_cl, zn_add, zn_mul, zn_sub, zn_pm, br_tt, br_ff, br_ltT, br_ltF, br_leT, br_leF, br_eqT, br_eqF, br_eqs, br_eqm, br_eqm', br_ltm, br_mlt, br_lem, br_mle, br_oiF, br_lgge, br_lgle, br_lggt, br_lglt, br_lgeq, br_zb, br_zb1, bV_s, bI_s, bL_s, zo_n, zo_s, c.n, s.hs, e, e0, e2, c.pl, e4, e5, r1, r2, a1]
            · simp (disch := omega) only [w_ne, w_at, wl_ne, wl_at, wc_ne, wc_at, upd_at, upd_ne, upl_at, upl_ne, cpy_in0, zn_cl, zn_add, zn_mul, zn_sub, zn_pm, br_tt, br_ff, br_ltT, br_ltF, br_leT, br_leF, br_eqT, br_eqF, br_eqs, br_eqm, br_eqm', br_ltm, br_mlt, br_lem, br_mle, br_oiF, br_lgge, br_lgle, br_lggt, br_lglt, br_lgeq, br_zb, br_zb1, bV_s, bI_s, bL_s, zo_n, zo_s, c.n, s.hs, e, e0, e2, c.pl, e4, e5, r1, a1]
          · subst ha
            obtain ⟨hj, hx⟩ := h3 j rfl
            by_cases hlt : sp_near T V E U day l i < sp_near T V E U day l j
            · refine key (some i) (sp_near T V E U day l i) (some (.long (sp_near T V E U day l i))) m1 a2 (by intro j hj; cases hj; exact ⟨by omega, rfl⟩) (by rw [e1]; simp [sp_bt, hlt]) ?_
              rw [e_M_lights_24]
              rcases c.rc l hl with ⟨r1, r2⟩ | ⟨r1, r2⟩
              · simp (disch := omega) only [w_ne, w_at, wl_ne, wl_at, wc_ne, wc_at, upd_at, upd_ne, upl_at, upl_ne, cpy_in0, zn_cl, zn_add, zn_mul, zn_sub, zn_pm, br_tt, br_ff, br_ltT, br_ltF, br_leT, br_leF, br_eqT, br_eqF, br_eqs, br_eqm, br_eqm', br_ltm, br_mlt, br_lem, br_mle, br_oiF, br_lgge, br_lgle, br_lggt, br_lglt, br_lgeq, br_zb, br_zb1, bV_s, bI_s, bL_s, zo_n, zo_s, c.n, s.hs, e, e0, e2, c.pl, e4, e5, r1, r2, a1, hx, if_pos hlt]
              · simp (disch := omega) only [w_ne, w_at, wl_ne, wl_at, wc_ne, wc_at, upd_at, upd_ne, upl_at, upl_ne, cpy_in0, zn_cl, zn_add, zn_mul, zn_sub, zn_pm, br_tt, br_ff, br_ltT, br_ltF, br_leT, br_leF, br_eqT, br_eqF, br_eqs, br_eqm, br_eqm', br_ltm, br_mlt, br_lem, br_mle, br_oiF, br_lgge, br_lgle, br_lggt, br_lglt, br_lgeq, br_zb, br_zb1, bV_s, bI_s, bL_s, zo_n, zo_s, c.n, s.hs, e, e0, e2, c.pl, e4, e5, r1, a1, hx, if_pos hlt]
            · refine key (some j) x5 (some (.long (sp_near T V E U day l i))) m1 a2 h3 (by rw [e1]; simp [sp_bt, hlt]) ?_
              rw [e_M_lights_24]
              rcases c.rc l hl with ⟨r1, r2⟩ | ⟨r1, r2⟩
              · simp (disch := omega) only [w_ne, w_at, wl_ne, wl_at, wc_ne, wc_at, upd_at, upd_ne, upl_at, upl_ne, cpy_in0, zn_cl, zn_add, zn_mul, zn_sub, zn_pm, br_tt, br_ff, br_ltT, br_ltF, br_leT, br_leF, br_eqT, br_eqF, br_eqs, br_eqm, br_eqm', br_ltm, br_mlt, br_lem, br_mle, br_oiF, br_lgge, br_lgle, br_lggt, br_lglt, br_lgeq, br_zb, br_zb1, bV_s, bI_s, bL_s, zo_n, zo_s, c.n, s.hs, e, e0, e2, c.pl, e4, e5, r1, r2, a1, hx, if_neg hlt]
              · simp (disch := omega) only [w_ne, w_at, wl_ne, wl_at, wc_ne, wc_at, upd_at, upd_ne, upl_at, upl_ne, cpy_in0, zn_cl, zn_add, zn_mul, zn_sub, zn_pm, br_tt, br_ff, br_ltT, br_ltF, br_leT, br_leF, br_eqT, br_eqF, br_eqs, br_eqm, br_eqm', br_ltm, br_mlt, br_lem, br_mle, br_oiF, br_lgge, br_lgle, br_lggt, br_lglt, br_lgeq, br_zb, br_zb1, bV_s, bI_s, bL_s, zo_n, zo_s, c.n, s.hs, e, e0, e2, c.pl, e4, e5, r1, a1, hx, if_neg hlt]
        · have e1 : sp_wt T V U l h i = false := by unfold sp_wt; simp [e, e2, e3]
          refine key acc x5 x8 m (frl_refl m) h3 (by rw [e1]; simp) ?_
          rw [e_M_lights_24]
          rcases c.rc l hl with ⟨r1, r2⟩ | ⟨r1, r2⟩
          · simp (disch := omega) only [w_ne, w_at, wl_ne, wl_at, wc_ne, wc_at, upd_at, upd_ne, upl_at, upl_ne, cpy_in0, zn_cl, zn_add, zn_mul, zn_sub, zn_pm, br_tt, br_ff, br_ltT, br_ltF, br_leT, br_leF, br_eqT, br_eqF, br_eqs, br_eqm, br_eqm', br_ltm, br_mlt, br_lem, br_mle, br_oiF, br_lgge, br_lgle, br_lggt, br_lglt, br_lgeq, br_zb, br_zb1, bV_s, bI_s, bL_s, zo_n, zo_s, c.n, s.hs, e, e0, e2, c.pl, e4, e5, r1, r2]
          · exfalso; omega
      · have e1 : sp_wt T V U l h i = false := by unfold sp_wt; simp [e, e2]
        refine key acc x5 x8 m (frl_refl m) h3 (by rw [e1]; simp) ?_
        rw [e_M_lights_24]
        simp (disch := omega) only [w_ne, w_at, wl_ne, wl_at, wc_ne, wc_at, upd_at, upd_ne, upl_at, upl_ne, cpy_in0, zn_cl, zn_add, zn_mul, zn_sub, zn_pm, br_tt, br_ff, br_ltT, br_ltF, br_leT, br_leF, br_eqT, br_eqF, br_eqs, br_eqm, br_eqm', br_ltm, br_mlt, br_lem, br_mle, br_oiF, br_lgge, br_lgle, br_lggt, br_lglt, br_lgeq, br_zb, br_zb1, bV_s, bI_s, bL_s, zo_n, zo_s, c.n, s.hs, e, e0]
    · have := hb i q (by omega) e
      have e1 : sp_wt T V U l h i = false := by unfold sp_wt; simp [e]
      refine key acc x5 x8 m (frl_refl m) h3 (by rw [e1]; simp) ?_
      rw [e_M_lights_24]
      simp (disch := omega) only [w_ne, w_at, wl_ne, wl_at, wc_ne, wc_at, upd_at, upd_ne, upl_at, upl_ne, cpy_in0, zn_cl, zn_add, zn_mul, zn_sub, zn_pm, br_tt, br_ff, br_ltT, br_ltF, br_leT, br_leF, br_eqT, br_eqF, br_eqs, br_eqm, br_eqm', br_ltm, br_mlt, br_lem, br_mle, br_oiF, br_lgge, br_lgle, br_lggt, br_lglt, br_lgeq, br_zb, br_zb1, bV_s, bI_s, bL_s, zo_n, zo_s, c.n, s.hs, e]
theorem lq_lights {b : Nat} (hb1 : b < 2) {T V : Td} {E : Ev} (W : tw T V) (hE : evW E) {ord : List Nat} {U : Nat → Nat} {mt : List (Nat × Nat)} {day d l : Nat} (hU : ∀ l, l < T 0 1 → U l < 30) (hl : l < T 0 1) (r : Nat) :
    ∀ (f : Nat) (h : Hs) (w : List Nat) (x y z u : Option Value) (m : am_M), T 0 0 ≤ r + sp_cn (T 0 0) h → 10 * r + 10 < f → rx T V E m → rn b T ord U mt h w day m → hwI (T 0 0) h w →
    ∃ m', r_M_lights_2 (d + 4) f (zn b) (zn l) (zn 1) x y z u m = some (none, m') ∧ rn b T ord U mt (sp_light T V U (sp_near T V E U day l) l r h w).1 (sp_light T V U (sp_near T V E U day l) l r h w).2 day m' ∧ fry b m m' := by
  have nil : ∀ (f : Nat) (h : Hs) (w : List Nat) (x y z u : Option Value) (m : am_M), 10 < f → rn b T ord U mt h w day m → w.length = 0 → r_M_lights_2 (d + 4) f (zn b) (zn l) (zn 1) x y z u m = some (none, m) := by
    intro f h w x y z u m h2 s e
    obtain ⟨f, rfl⟩ : ∃ g, f = g + 1 := ⟨f - 1, by omega⟩
    rw [e_M_lights_2]
    simp (disch := omega) only [w_ne, w_at, wl_ne, wl_at, wc_ne, wc_at, upd_at, upd_ne, upl_at, upl_ne, cpy_in0, zn_cl, zn_add, zn_mul, zn_sub, zn_pm, br_tt, br_ff, br_ltT, br_ltF, br_leT, br_leF, br_eqT, br_eqF, br_eqs, br_eqm, br_eqm', br_ltm, br_mlt, br_lem, br_mle, br_oiF, br_lgge, br_lgle, br_lggt, br_lglt, br_lgeq, br_zb, br_zb1, bV_s, bI_s, bL_s, zo_n, zo_s, s.wl, e]
  have stop : ∀ (f : Nat) (h : Hs) (w : List Nat) (x y z u : Option Value) (m : am_M), 10 < f → rx T V E m → rn b T ord U mt h w day m → hwI (T 0 0) h w → ¬ w.length = 0 → sp_min (sp_wt T V U l h) (sp_near T V E U day l) (T 0 0) 0 none = none → ∃ m', r_M_lights_2 (d + 4) f (zn b) (zn l) (zn 1) x y z u m = some (none, m') ∧ frl m m' := by
    intro f h w x y z u m h2 c s I h0 e
    have := W.n; have := hw_len I
    obtain ⟨f, rfl⟩ : ∃ g, f = g + 1 := ⟨f - 1, by omega⟩
    obtain ⟨f', x5', x8', m', b1, b2, b3⟩ := lq_lt hb1 W hE (d := d) (fun i s hi e => hw_h I hi e) hU hl (T 0 0) 0 f none 0 u m (by omega) (by omega) c s (by intro j hj; cases hj)
    have c1 := c.fl b3
    refine ⟨m', ?_, b3⟩
    rw [e_M_lights_2]
    simp (disch := omega) only [w_ne, w_at, wl_ne, wl_at, wc_ne, wc_at, upd_at, upd_ne, upl_at, upl_ne, cpy_in0, zn_cl, zn_add, zn_mul, zn_sub, zn_pm, br_tt, br_ff, br_ltT, br_ltF, br_leT, br_leF, br_eqT, br_eqF, br_eqs, br_eqm, br_eqm', br_ltm, br_mlt, br_lem, br_mle, br_oiF, br_lgge, br_lgle, br_lggt, br_lglt, br_lgeq, br_zb, br_zb1, bV_s, bI_s, bL_s, zo_n, zo_s, s.wl]
    rw [← zo_n, b1, e, e_M_lights_24]
    obtain ⟨f', rfl⟩ : ∃ g, f' = g + 1 := ⟨f' - 1, by omega⟩
    simp (disch := omega) only [w_ne, w_at, wl_ne, wl_at, wc_ne, wc_at, upd_at, upd_ne, upl_at, upl_ne, cpy_in0, zn_cl, zn_add, zn_mul, zn_sub, zn_pm, br_tt, br_ff, br_ltT, br_ltF, br_leT, br_leF, br_eqT, br_eqF, br_eqs, br_eqm, br_eqm', br_ltm, br_mlt, br_lem, br_mle, br_oiF, br_lgge, br_lgle, br_lggt, br_lglt, br_lgeq, br_zb, br_zb1, bV_s, bI_s, bL_s, zo_n, zo_s, c1.n, e_M_lights_2]
  induction r with
  | zero =>
    intro f h w x y z u m h1 h2 c s I
    by_cases h0 : w.length = 0
    · exact ⟨m, nil f h w x y z u m (by omega) s h0, s, fry_refl b m⟩
    · have e : sp_min (sp_wt T V U l h) (sp_near T V E U day l) (T 0 0) 0 none = none := by
        rcases opt_c (sp_min (sp_wt T V U l h) (sp_near T V E U day l) (T 0 0) 0 none) with e | ⟨t, e⟩
        · exact e
        · obtain ⟨ht, e1⟩ := light_pick e
          have h5 : sp_cn (T 0 0) h ≤ T 0 0 := by have := I.2; omega
          exact absurd e1 (cn_full (n := 0) (h := h) (T 0 0) 0 (by unfold sp_cn at h1 h5; omega) t (by omega) (by omega))
      obtain ⟨m', a1, a2⟩ := stop f h w x y z u m (by omega) c s I h0 e
      exact ⟨m', a1, s.fl a2, a2.y⟩
  | succ r ih =>
    intro f h w x y z u m h1 h2 c s I
    have := W.n; have := hw_len I
    by_cases h0 : w.length = 0
    · exact ⟨m, nil f h w x y z u m (by omega) s h0, by rw [light_nil h0]; exact s, fry_refl b m⟩
    · rcases opt_c (sp_min (sp_wt T V U l h) (sp_near T V E U day l) (T 0 0) 0 none) with e | ⟨t, e⟩
      · obtain ⟨m', a1, a2⟩ := stop f h w x y z u m (by omega) c s I h0 e
        exact ⟨m', a1, by rw [light_none e]; exact s.fl a2, a2.y⟩
      · obtain ⟨ht, e1⟩ := light_pick e
        obtain ⟨f, rfl⟩ : ∃ g, f = g + 1 := ⟨f - 1, by omega⟩
        obtain ⟨f', x5', x8', m1, b1, b2, b3⟩ := lq_lt hb1 W hE (d := d) (fun i s hi e => hw_h I hi e) hU hl (T 0 0) 0 f none 0 u m (by omega) (by omega) c s (by intro j hj; cases hj)
        have c1 := c.fl b3
        have s1 := s.fl b3
        have hch := ch_lt (T := T) (V := V) (w := w) (t := t) (by omega)
        have e2 := s_givenTo hb1 W (d := d + 2) c1 (by omega) (by omega) s1.wl s1.ws (fun i hi => hw_g I hi) ht
        obtain ⟨m2, a1, a2, a3⟩ := s_taken hb1 (d := d + 3) (by omega) s1.dd hch
        obtain ⟨g1, g2⟩ := rd_set (o := some (w.getD (sp_ch T V w t) 0)) W.n a2 ht
        have f3 := frd_tr a3 g2
        have h5 := cn_set (n := T 0 0) (h := h) (t := t) (x := some (w.getD (sp_ch T V w t) 0)) ht
        rw [e1] at h5; simp only [sp_ne, reduceCtorEq, if_false, if_true] at h5
        obtain ⟨m', d1, d2, d3⟩ := ih f' _ _ (some (.int (zn t))) (some (.long x5')) (some (.int (zn (T 0 0)))) x8' _ (by omega) (by omega) (c1.fd f3) (s1.to g1 f3) (hw_take I ht e1 hch)
        refine ⟨m', ?_, by rw [light_some (by omega) e]; exact d2, fry_tr b3.y (fry_tr f3.y d3)⟩
        rw [e_M_lights_2]
        simp (disch := omega) only [w_ne, w_at, wl_ne, wl_at, wc_ne, wc_at, upd_at, upd_ne, upl_at, upl_ne, cpy_in0, zn_cl, zn_add, zn_mul, zn_sub, zn_pm, br_tt, br_ff, br_ltT, br_ltF, br_leT, br_leF, br_eqT, br_eqF, br_eqs, br_eqm, br_eqm', br_ltm, br_mlt, br_lem, br_mle, br_oiF, br_lgge, br_lgle, br_lggt, br_lglt, br_lgeq, br_zb, br_zb1, bV_s, bI_s, bL_s, zo_n, zo_s, s.wl]
        rw [← zo_n, b1, e, e_M_lights_24]
        simp (disch := omega) only [w_ne, w_at, wl_ne, wl_at, wc_ne, wc_at, upd_at, upd_ne, upl_at, upl_ne, cpy_in0, zn_cl, zn_add, zn_mul, zn_sub, zn_pm, br_tt, br_ff, br_ltT, br_ltF, br_leT, br_leF, br_eqT, br_eqF, br_eqs, br_eqm, br_eqm', br_ltm, br_mlt, br_lem, br_mle, br_oiF, br_lgge, br_lgle, br_lggt, br_lglt, br_lgeq, br_zb, br_zb1, bV_s, bI_s, bL_s, zo_n, zo_s, c1.n, e2, a1]
        exact d1
theorem s_lights {b : Nat} (hb1 : b < 2) {T V : Td} {E : Ev} (W : tw T V) (hE : evW E) {ord : List Nat} {U : Nat → Nat} {mt : List (Nat × Nat)} {day d l : Nat} (hU : ∀ l, l < T 0 1 → U l < 30) (hl : l < T 0 1) {h : Hs} {w : List Nat} {m : am_M} (c : rx T V E m) (s : rn b T ord U mt h w day m) (I : hwI (T 0 0) h w) :
    ∃ m', am_c (d + 5) y_M_lights [.ref 107, .int (zn b), .int (zn l)] m = some (none, m') ∧ rn b T ord U mt (sp_light T V U (sp_near T V E U day l) l (T 0 0) h w).1 (sp_light T V U (sp_near T V E U day l) l (T 0 0) h w).2 day m' ∧ fry b m m' := by
  have := W.n
  rw [n_M_lights]
  exact lq_lights hb1 W hE hU hl (T 0 0) 29999 h w none none none none m (by omega) (by omega) c s I
