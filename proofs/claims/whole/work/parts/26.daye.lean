/-! the day of the class: near, lamps -/
def sp_nv (T V : Td) (E : Ev) (U : Nat → Nat) (day : Nat) (h : Hs) (l t : Nat) : Int64 := (sp_nwor T V E U day h l t).getD (zn (sp_ap (T 1 t) (U l))).toInt64
theorem nv_near {T V : Td} {E : Ev} {U : Nat → Nat} {day : Nat} {h : Hs} {l t : Nat} (e : h t = none) : sp_nv T V E U day h l t = sp_near T V E U day l t := by
  unfold sp_nv sp_near sp_nwor sp_ow; rw [e]
theorem lp_meas1 {k : Nat} (hk : sc_k k) {T V : Td} {E : Ev} (W : tw T V) (hE : evW E) {h : Hs} {U : Nat → Nat} {day d l : Nat} {x2 x3 : Int32} (hb : ∀ i s, i < T 0 0 → h i = some s → s < T 0 0) (hU : ∀ l, l < T 0 1 → U l < 30) (hl : l < T 0 1) (r : Nat) :
    ∀ (i f : Nat) (x : Option Value) (m : am_M), i + r = T 0 0 → r < f → cx T V E m → (∀ i, i < T 0 0 → m.1 (k + 1) i = zo (h i)) → m.1 k 10 = zn day → (∀ l, l < T 0 1 → m.1 (k + 3) l = zn (U l)) →
    ∃ f' x' y' m', r_Day_measure_12 k (d + 3) f x2 x3 (zn l) (zn i) x m = r_Day_measure_3 k (d + 3) f' x2 x3 (zn (l + 1)) x' y' m' ∧ f ≤ f' + r + 1 ∧ m'.1 = m.1 ∧ (∀ c, c ≠ 44 → c ≠ 45 → c ≠ 51 → m'.2 c = m.2 c)
      ∧ (∀ t, i ≤ t → t < T 0 0 → m'.2 51 (l * 5 + t) = sp_nv T V E U day h l t) ∧ ∀ q, q < l * 5 + i ∨ l * 5 + T 0 0 ≤ q → m'.2 51 q = m.2 51 q := by
  induction r with
  | zero =>
    intro i f x m h1 h2 c hh hd hu
    have := W.n
    obtain ⟨f, rfl⟩ : ∃ g, f = g + 1 := ⟨f - 1, by omega⟩
    refine ⟨f, some (.int (zn i)), x, m, ?_, by omega, rfl, fun _ _ _ _ => rfl, fun t _ _ => by omega, fun _ _ => rfl⟩
    rw [e_Day_measure_12 hk]
    simp (disch := omega) only [w_ne, w_at, wl_ne, wl_at, wc_ne, wc_at, upd_at, upd_ne, upl_at, upl_ne, cpy_in0, zn_cl, zn_add, zn_mul, zn_sub, zn_pm, br_tt, br_ff, br_ltT, br_ltF, br_leT, br_leF, br_eqT, br_eqF, br_eqs, br_eqm, br_eqm', br_ltm, br_mlt, br_lem, br_mle, br_oiF, br_lgge, br_lgle, br_lggt, br_lglt, br_lgeq, br_zb, br_zb1, bV_s, bI_s, bL_s, zo_n, zo_s, c.n]
  | succ r ih =>
    intro i f x m h1 h2 c hh hd hu
    have := W.n; have := W.L
    obtain ⟨f, rfl⟩ : ∃ g, f = g + 1 := ⟨f - 1, by omega⟩
    obtain ⟨m1, a1, a2, a3⟩ := s_nearWorth hk W hE c hu hU hh hb hd (d := d) (t := i) (l := l) (by omega) hl
    have a4 := s_farness hk W (c.same a2) (d := d + 2) (U := U) (t := i) (l := l) (by rw [a2]; exact hu) hU (by omega) hl
    obtain ⟨f', x', y', m', b1, b2, b3, b4, b5, b6⟩ := ih (i + 1) f (some (.long ((sp_nwor T V E U day h l i).getD lmin))) (m1.1, am_wl m1.2 51 (l * 5 + i) (sp_nv T V E U day h l i)) (by omega) (by omega) (c.same a2) (by show ∀ i, _ → m1.1 _ i = _; rw [a2]; exact hh) (by show m1.1 k 10 = _; rw [a2]; exact hd) (by show ∀ i, _ → m1.1 _ i = _; rw [a2]; exact hu)
    refine ⟨f', x', y', m', ?_, by omega, b3.trans a2, ?_, ?_, ?_⟩
    · rw [← b1, e_Day_measure_12 hk]
      simp (disch := omega) only [w_ne, w_at, wl_ne, wl_at, wc_ne, wc_at, upd_at, upd_ne, upl_at, upl_ne, cpy_in0, zn_cl, zn_add, zn_mul, zn_sub, zn_pm, br_tt, br_ff, br_ltT, br_ltF, br_leT, br_leF, br_eqT, br_eqF, br_eqs, br_eqm, br_eqm', br_ltm, br_mlt, br_lem, br_mle, br_oiF, br_lgge, br_lgle, br_lggt, br_lglt, br_lgeq, br_zb, br_zb1, bV_s, bI_s, bL_s, zo_n, zo_s, c.n, a1, a4, lmin_eq (o := sp_nwor T V E U day h l i) (fun v e => hE.2 _ _ v (fun _ _ => nm_bd) e)]
      unfold sp_nv
      cases e : sp_nwor T V E U day h l i with
      | none => simp only [if_true, Option.getD_none]
      | some v => simp only [reduceCtorEq, if_false, Option.getD_some]
    · intro q q1 q2 q3
      rw [b4 q q1 q2 q3]
      simp (disch := omega) only [w_ne, w_at, wl_ne, wl_at, wc_ne, wc_at, upd_at, upd_ne, upl_at, upl_ne, cpy_in0, zn_cl, zn_add, zn_mul, zn_sub, zn_pm, br_tt, br_ff, br_ltT, br_ltF, br_leT, br_leF, br_eqT, br_eqF, br_eqs, br_eqm, br_eqm', br_ltm, br_mlt, br_lem, br_mle, br_oiF, br_lgge, br_lgle, br_lggt, br_lglt, br_lgeq, br_zb, br_zb1, bV_s, bI_s, bL_s, zo_n, zo_s]
      exact a3 q q1 q2
    · intro t t1 t2
      by_cases e : t = i
      · subst e
        rw [b6 _ (by omega)]; simp (disch := omega) only [w_ne, w_at, wl_ne, wl_at, wc_ne, wc_at, upd_at, upd_ne, upl_at, upl_ne, cpy_in0, zn_cl, zn_add, zn_mul, zn_sub, zn_pm, br_tt, br_ff, br_ltT, br_ltF, br_leT, br_leF, br_eqT, br_eqF, br_eqs, br_eqm, br_eqm', br_ltm, br_mlt, br_lem, br_mle, br_oiF, br_lgge, br_lgle, br_lggt, br_lglt, br_lgeq, br_zb, br_zb1, bV_s, bI_s, bL_s, zo_n, zo_s]
      · exact b5 t (by omega) t2
    · intro q hq
      rw [b6 q (by omega)]
      simp (disch := omega) only [w_ne, w_at, wl_ne, wl_at, wc_ne, wc_at, upd_at, upd_ne, upl_at, upl_ne, cpy_in0, zn_cl, zn_add, zn_mul, zn_sub, zn_pm, br_tt, br_ff, br_ltT, br_ltF, br_leT, br_leF, br_eqT, br_eqF, br_eqs, br_eqm, br_eqm', br_ltm, br_mlt, br_lem, br_mle, br_oiF, br_lgge, br_lgle, br_lggt, br_lglt, br_lgeq, br_zb, br_zb1, bV_s, bI_s, bL_s, zo_n, zo_s]
      rw [a3 51 (by omega) (by omega)]
theorem lp_meas {k : Nat} (hk : sc_k k) {T V : Td} {E : Ev} (W : tw T V) (hE : evW E) {h : Hs} {U : Nat → Nat} {day d b : Nat} {x2 : Int32} (hb : ∀ i s, i < T 0 0 → h i = some s → s < T 0 0) (hU : ∀ l, l < T 0 1 → U l < 30) (hl : b ≤ T 0 1) (r : Nat) :
    ∀ (i f : Nat) (x y : Option Value) (m : am_M), i + r = b → 10 * r < f → cx T V E m → (∀ i, i < T 0 0 → m.1 (k + 1) i = zo (h i)) → m.1 k 10 = zn day → (∀ l, l < T 0 1 → m.1 (k + 3) l = zn (U l)) →
    ∃ m', r_Day_measure_3 k (d + 3) f x2 (zn b) (zn i) x y m = some (none, m') ∧ m'.1 = m.1 ∧ (∀ c, c ≠ 44 → c ≠ 45 → c ≠ 51 → m'.2 c = m.2 c)
      ∧ (∀ l t, i ≤ l → l < b → t < T 0 0 → m'.2 51 (l * 5 + t) = sp_nv T V E U day h l t) ∧ ∀ q, q < i * 5 ∨ b * 5 ≤ q → m'.2 51 q = m.2 51 q := by
  induction r with
  | zero =>
    intro i f x y m h1 h2 c hh hd hu
    have := W.L
    obtain ⟨f, rfl⟩ : ∃ g, f = g + 1 := ⟨f - 1, by omega⟩
    refine ⟨m, ?_, rfl, fun _ _ _ _ => rfl, fun l t _ _ _ => by omega, fun _ _ => rfl⟩
    rw [e_Day_measure_3 hk]
    simp (disch := omega) only [w_ne, w_at, wl_ne, wl_at, wc_ne, wc_at, upd_at, upd_ne, upl_at, upl_ne, cpy_in0, zn_cl, zn_add, zn_mul, zn_sub, zn_pm, br_tt, br_ff, br_ltT, br_ltF, br_leT, br_leF, br_eqT, br_eqF, br_eqs, br_eqm, br_eqm', br_ltm, br_mlt, br_lem, br_mle, br_oiF, br_lgge, br_lgle, br_lggt, br_lglt, br_lgeq, br_zb, br_zb1, bV_s, bI_s, bL_s, zo_n, zo_s]
  | succ r ih =>
    intro i f x y m h1 h2 c hh hd hu
    have := W.n; have := W.L
    obtain ⟨f, rfl⟩ : ∃ g, f = g + 1 := ⟨f - 1, by omega⟩
    obtain ⟨f', x', y', m1, a1, a2, a3, a4, a5, a6⟩ := lp_meas1 hk W hE (d := d) (day := day) (l := i) (x2 := x2) (x3 := zn b) hb hU (by omega) (T 0 0) 0 f y m (by omega) (by omega) c hh hd hu
    obtain ⟨m', b1, b2, b3, b4, b5⟩ := ih (i + 1) f' x' y' m1 (by omega) (by omega) (c.same a3) (by rw [a3]; exact hh) (by rw [a3]; exact hd) (by rw [a3]; exact hu)
    refine ⟨m', ?_, b2.trans a3, fun c c1 c2 c3 => (b3 c c1 c2 c3).trans (a4 c c1 c2 c3), ?_, ?_⟩
    · rw [e_Day_measure_3 hk]
      simp (disch := omega) only [w_ne, w_at, wl_ne, wl_at, wc_ne, wc_at, upd_at, upd_ne, upl_at, upl_ne, cpy_in0, zn_cl, zn_add, zn_mul, zn_sub, zn_pm, br_tt, br_ff, br_ltT, br_ltF, br_leT, br_leF, br_eqT, br_eqF, br_eqs, br_eqm, br_eqm', br_ltm, br_mlt, br_lem, br_mle, br_oiF, br_lgge, br_lgle, br_lggt, br_lglt, br_lgeq, br_zb, br_zb1, bV_s, bI_s, bL_s, zo_n, zo_s, a1, b1]
    · intro l t l1 l2 t1
      by_cases e : l = i
      · subst e
        rw [b5 _ (by omega)]; exact a5 t (by omega) t1
      · exact b4 l t (by omega) l2 t1
    · intro q hq
      rw [b5 q (by omega), a6 q (by omega)]
theorem s_measure {k : Nat} (hk : sc_k k) {T V : Td} {E : Ev} (W : tw T V) (hE : evW E) {ord : List Nat} {U : Nat → Nat} {mt : List (Nat × Nat)} {day d a b : Nat} {h : Hs} {w : List Nat} {m : am_M} (c : cx T V E m) (s : sn k T ord U mt h w day m) (I : hwI (T 0 0) h w) (hU : ∀ l, l < T 0 1 → U l < 30) (hab : a ≤ b) (hl : b ≤ T 0 1) :
    ∃ m', am_c (d + 4) y_Day_measure [.ref 26, .ref k, .int (zn a), .int (zn b)] m = some (none, m') ∧ m'.1 = m.1 ∧ (∀ c, c ≠ 44 → c ≠ 45 → c ≠ 51 → m'.2 c = m.2 c)
      ∧ (∀ l t, a ≤ l → l < b → t < T 0 0 → m'.2 51 (l * 5 + t) = sp_nv T V E U day h l t) ∧ ∀ q, q < a * 5 ∨ b * 5 ≤ q → m'.2 51 q = m.2 51 q := by
  have := W.L
  rw [n_Day_measure hk]
  exact lp_meas hk W hE (fun i s hi e => hw_h I hi e) hU hl (b - a) a 29999 none none m (by omega) (by omega) c s.hs s.dy s.hu
theorem lp_nextAt {k : Nat} (hk : sc_k k) {T V : Td} {E : Ev} (W : tw T V) {h : Hs} {g : Nat → Int64} {U : Nat → Nat} {d l : Nat} {m : am_M} (c : cx T V E m) (hh : ∀ i, i < T 0 0 → m.1 (k + 1) i = zo (h i)) (hb : ∀ i s, i < T 0 0 → h i = some s → s < T 0 0) (hu : ∀ l, l < T 0 1 → m.1 (k + 3) l = zn (U l)) (hU : ∀ l, l < T 0 1 → U l < 30) (hl : l < T 0 1) (hg : ∀ q, q < T 0 0 → m.2 51 (l * 5 + q) = g q) (r : Nat) :
    ∀ (i f : Nat) (acc : Option Nat) (x : Option Value), i + r = T 0 0 → 2 * r < f → (∀ j, acc = some j → j < T 0 0) →
    r_Day_nextAt_10 k (d + 1) f (zn l) (zo acc) (zn (l * 5)) (zn i) x m = some (some (.int (zo (sp_min (sp_wt T V U l h) g r i acc))), m) := by
  induction r with
  | zero =>
    intro i f acc x h1 h2 h3
    have := W.n
    obtain ⟨f, rfl⟩ : ∃ g, f = g + 1 := ⟨f - 1, by omega⟩
    rw [sp_min, e_Day_nextAt_10 hk]
    simp (disch := omega) only [w_ne, w_at, wl_ne, wl_at, wc_ne, wc_at, upd_at, upd_ne, upl_at, upl_ne, cpy_in0, zn_cl, zn_add, zn_mul, zn_sub, zn_pm, br_tt, br_ff, br_ltT, br_ltF, br_leT, br_leF, br_eqT, br_eqF, br_eqs, br_eqm, br_eqm', br_ltm, br_mlt, br_lem, br_mle, br_oiF, br_lgge, br_lgle, br_lggt, br_lglt, br_lgeq, br_zb, br_zb1, bV_s, bI_s, bL_s, zo_n, zo_s, c.n]
  | succ r ih =>
    intro i f acc x h1 h2 h3
    have := W.n; have := W.L; have := W.pl i (by omega); have := W.hw i (by omega); have := W.rc l hl; have := hU l hl
    have hap : sp_ap (T 1 i) (U l) < 30 := sp_ap_lt (by omega) (by omega)
    obtain ⟨f, rfl⟩ : ∃ g, f = g + 2 := ⟨f - 2, by omega⟩
    have e0 := s_farness hk W c (d := d) (U := U) hu hU (t := i) (l := l) (by omega) hl
    rw [sp_min, e_Day_nextAt_10 hk]
    cases e : h i with
    | some s =>
      have := hb i s (by omega) e
      have e1 : sp_wt T V U l h i = false := by unfold sp_wt; simp [e]
      simp (disch := omega) only [w_ne, w_at, wl_ne, wl_at, wc_ne, wc_at, upd_at, upd_ne, upl_at, upl_ne, cpy_in0, zn_cl, zn_add, zn_mul, zn_sub, zn_pm, br_tt, br_ff, br_ltT, br_ltF, br_leT, br_leF, br_eqT, br_eqF, br_eqs, br_eqm, br_eqm', br_ltm, br_mlt, br_lem, br_mle, br_oiF, br_lgge, br_lgle, br_lggt, br_lglt, br_lgeq, br_zb, br_zb1, bV_s, bI_s, bL_s, zo_n, zo_s, c.n, hh, e, e1]
      rw [e_Day_nextAt_50 hk]
      simp (disch := omega) only [w_ne, w_at, wl_ne, wl_at, wc_ne, wc_at, upd_at, upd_ne, upl_at, upl_ne, cpy_in0, zn_cl, zn_add, zn_mul, zn_sub, zn_pm, br_tt, br_ff, br_ltT, br_ltF, br_leT, br_leF, br_eqT, br_eqF, br_eqs, br_eqm, br_eqm', br_ltm, br_mlt, br_lem, br_mle, br_oiF, br_lgge, br_lgle, br_lggt, br_lglt, br_lgeq, br_zb, br_zb1, bV_s, bI_s, bL_s, zo_n, zo_s]
      rw [ih (i + 1) f acc _ (by omega) (by omega) h3]
      simp
    | none =>
      by_cases e2 : V 1 i = 0
      · by_cases e3 : sp_ap (T 1 i) (U l) ≤ V 2 l
        · have e1 : sp_wt T V U l h i = true := by unfold sp_wt; simp [e, e2, e3]
          rw [e1]
          cases ha : acc with
          | none =>
            subst ha
            simp (disch := omega) only [w_ne, w_at, wl_ne, wl_at, wc_ne, wc_at, upd_at, upd_ne, upl_at, upl_ne, cpy_in0, zn_cl, zn_add, zn_mul, zn_sub, zn_pm, br_tt, br_ff, br_ltT, br_ltF, br_leT, br_leF, br_eqT, br_eqF, br_eqs, br_eqm, br_eqm', br_ltm, br_mlt, br_lem, br_mle, br_oiF, br_lgge, br_lgle, br_lggt, br_lglt, br_lgeq, br_zb, br_zb1, bV_s, bI_s, bL_s, zo_n, zo_s, c.n, hh, e, c.hw, e0, c.rc, if_true]
            rw [← zo_s i, ih (i + 1) (f + 1) (some i) _ (by omega) (by omega) (by intro j hj; cases hj; omega)]
            rfl
          | some j =>
            subst ha
            have := h3 j rfl
            simp (disch := omega) only [w_ne, w_at, wl_ne, wl_at, wc_ne, wc_at, upd_at, upd_ne, upl_at, upl_ne, cpy_in0, zn_cl, zn_add, zn_mul, zn_sub, zn_pm, br_tt, br_ff, br_ltT, br_ltF, br_leT, br_leF, br_eqT, br_eqF, br_eqs, br_eqm, br_eqm', br_ltm, br_mlt, br_lem, br_mle, br_oiF, br_lgge, br_lgle, br_lggt, br_lglt, br_lgeq, br_zb, br_zb1, bV_s, bI_s, bL_s, zo_n, zo_s, c.n, hh, e, c.hw, e0, c.rc, if_true, hg]
            by_cases hlt : g i < g j
            · rw [if_neg (Int64.not_le.mpr hlt), ← zo_s i, ih (i + 1) (f + 1) (some i) _ (by omega) (by omega) (by intro j hj; cases hj; omega), sp_bt, if_pos hlt]
            · rw [if_pos (Int64.not_lt.mp hlt), ← zo_s j, ih (i + 1) (f + 1) (some j) _ (by omega) (by omega) h3, sp_bt, if_neg hlt]
        · have e1 : sp_wt T V U l h i = false := by unfold sp_wt; simp [e, e2, e3]
          simp (disch := omega) only [w_ne, w_at, wl_ne, wl_at, wc_ne, wc_at, upd_at, upd_ne, upl_at, upl_ne, cpy_in0, zn_cl, zn_add, zn_mul, zn_sub, zn_pm, br_tt, br_ff, br_ltT, br_ltF, br_leT, br_leF, br_eqT, br_eqF, br_eqs, br_eqm, br_eqm', br_ltm, br_mlt, br_lem, br_mle, br_oiF, br_lgge, br_lgle, br_lggt, br_lglt, br_lgeq, br_zb, br_zb1, bV_s, bI_s, bL_s, zo_n, zo_s, c.n, hh, e, c.hw, e0, c.rc, e1]
          rw [ih (i + 1) (f + 1) acc _ (by omega) (by omega) h3]
          simp
      · have e1 : sp_wt T V U l h i = false := by unfold sp_wt; simp [e, e2]
        simp (disch := omega) only [w_ne, w_at, wl_ne, wl_at, wc_ne, wc_at, upd_at, upd_ne, upl_at, upl_ne, cpy_in0, zn_cl, zn_add, zn_mul, zn_sub, zn_pm, br_tt, br_ff, br_ltT, br_ltF, br_leT, br_leF, br_eqT, br_eqF, br_eqs, br_eqm, br_eqm', br_ltm, br_mlt, br_lem, br_mle, br_oiF, br_lgge, br_lgle, br_lggt, br_lglt, br_lgeq, br_zb, br_zb1, bV_s, bI_s, bL_s, zo_n, zo_s, c.n, hh, e, c.hw, e1]
        rw [e_Day_nextAt_50 hk]
        simp (disch := omega) only [w_ne, w_at, wl_ne, wl_at, wc_ne, wc_at, upd_at, upd_ne, upl_at, upl_ne, cpy_in0, zn_cl, zn_add, zn_mul, zn_sub, zn_pm, br_tt, br_ff, br_ltT, br_ltF, br_leT, br_leF, br_eqT, br_eqF, br_eqs, br_eqm, br_eqm', br_ltm, br_mlt, br_lem, br_mle, br_oiF, br_lgge, br_lgle, br_lggt, br_lglt, br_lgeq, br_zb, br_zb1, bV_s, bI_s, bL_s, zo_n, zo_s]
        rw [ih (i + 1) f acc _ (by omega) (by omega) h3]
        simp
theorem s_nextAt {k : Nat} (hk : sc_k k) {T V : Td} {E : Ev} (W : tw T V) {h : Hs} {g : Nat → Int64} {U : Nat → Nat} {d l : Nat} {m : am_M} (c : cx T V E m) (hh : ∀ i, i < T 0 0 → m.1 (k + 1) i = zo (h i)) (hb : ∀ i s, i < T 0 0 → h i = some s → s < T 0 0) (hu : ∀ l, l < T 0 1 → m.1 (k + 3) l = zn (U l)) (hU : ∀ l, l < T 0 1 → U l < 30) (hl : l < T 0 1) (hg : ∀ q, q < T 0 0 → m.2 51 (l * 5 + q) = g q) :
    am_c (d + 2) y_Day_nextAt [.ref 26, .ref k, .int (zn l)] m = some (some (.int (zo (sp_min (sp_wt T V U l h) g (T 0 0) 0 none))), m) := by
  have := W.n
  rw [n_Day_nextAt hk, zn_mul, ← zo_n]
  exact lp_nextAt hk W c hh hb hu hU hl hg (T 0 0) 0 29999 none none (by omega) (by omega) (by intro j hj; cases hj)
theorem lp_choose {k : Nat} (hk : sc_k k) {T V : Td} {E : Ev} (W : tw T V) {d t : Nat} {w : List Nat} {m : am_M} (c : cx T V E m) (hw : w.length ≤ 5) (hl : m.1 k 3 = zn w.length) (hr : ∀ i, i < w.length → m.1 (k + 2) i = zn (w.getD i 0)) (hb : ∀ i, i < w.length → w.getD i 0 < T 0 0) (ht : t < T 0 0) (r : Nat) :
    ∀ (i f b : Nat) (x : Option Value), i + r = w.length → r < f → b < w.length →
    r_Day_choose_39 k (d + 1) f (zn t) (zn b) (zn (sp_ap (T 2 (w.getD b 0)) (T 2 t))) (zn i) x m = some (some (.int (zn (sp_amin (fun i => sp_ap (T 2 (w.getD i 0)) (T 2 t)) r i b))), m) := by
  induction r with
  | zero =>
    intro i f b x h1 h2 h3
    obtain ⟨f, rfl⟩ : ∃ g, f = g + 1 := ⟨f - 1, by omega⟩
    rw [sp_amin, e_Day_choose_39 hk]
    simp (disch := omega) only [w_ne, w_at, wl_ne, wl_at, wc_ne, wc_at, upd_at, upd_ne, upl_at, upl_ne, cpy_in0, zn_cl, zn_add, zn_mul, zn_sub, zn_pm, br_tt, br_ff, br_ltT, br_ltF, br_leT, br_leF, br_eqT, br_eqF, br_eqs, br_eqm, br_eqm', br_ltm, br_mlt, br_lem, br_mle, br_oiF, br_lgge, br_lgle, br_lggt, br_lglt, br_lgeq, br_zb, br_zb1, bV_s, bI_s, bL_s, zo_n, zo_s, hl]
  | succ r ih =>
    intro i f b x h1 h2 h3
    have := W.n; have a1 := W.sz t ht; have a2 := W.sz _ (hb i (by omega)); have a3 := W.sz _ (hb b h3)
    have a4 := sp_ap_lt a2 a1; have a5 := sp_ap_lt a3 a1
    obtain ⟨f, rfl⟩ : ∃ g, f = g + 1 := ⟨f - 1, by omega⟩
    have e0 := s_sizeOf W c (d := d) (o := some (w.getD i 0)) (by intro s hs; cases hs; exact hb i (by omega))
    rw [zo_s, sp_szo] at e0
    rw [sp_amin, e_Day_choose_39 hk]
    simp (disch := omega) only [w_ne, w_at, wl_ne, wl_at, wc_ne, wc_at, upd_at, upd_ne, upl_at, upl_ne, cpy_in0, zn_cl, zn_add, zn_mul, zn_sub, zn_pm, br_tt, br_ff, br_ltT, br_ltF, br_leT, br_leF, br_eqT, br_eqF, br_eqs, br_eqm, br_eqm', br_ltm, br_mlt, br_lem, br_mle, br_oiF, br_lgge, br_lgle, br_lggt, br_lglt, br_lgeq, br_zb, br_zb1, bV_s, bI_s, bL_s, zo_n, zo_s, hl, hr, e0, c.sz, zn_iabs]
    by_cases e : sp_ap (T 2 (w.getD i 0)) (T 2 t) < sp_ap (T 2 (w.getD b 0)) (T 2 t)
    · rw [br_leF e (by omega), ih (i + 1) f i _ (by omega) (by omega) (by omega), if_pos e]
    · rw [br_leT (by omega) (by omega), ih (i + 1) f b _ (by omega) (by omega) h3, if_neg e]
theorem s_choose {k : Nat} (hk : sc_k k) {T V : Td} {E : Ev} (W : tw T V) {d t : Nat} {w : List Nat} {m : am_M} (c : cx T V E m) (hw : w.length ≤ 5) (h0 : 0 < w.length) (hl : m.1 k 3 = zn w.length) (hr : ∀ i, i < w.length → m.1 (k + 2) i = zn (w.getD i 0)) (hb : ∀ i, i < w.length → w.getD i 0 < T 0 0) (ht : t < T 0 0) :
    am_c (d + 2) y_Day_choose [.ref 26, .ref k, .int (zn t)] m = some (some (.int (zn (sp_ch T V w t))), m) := by
  have := W.n; have := W.rl; have a1 := W.sz t ht; have a2 := W.sz _ (hb 0 h0)
  have a4 := sp_ap_lt a2 a1
  rw [n_Day_choose hk]
  unfold sp_ch
  by_cases e1 : V 3 0 = 0
  · simp (disch := omega) only [w_ne, w_at, wl_ne, wl_at, wc_ne, wc_at, upd_at, upd_ne, upl_at, upl_ne, cpy_in0, zn_cl, zn_add, zn_mul, zn_sub, zn_pm, br_tt, br_ff, br_ltT, br_ltF, br_leT, br_leF, br_eqT, br_eqF, br_eqs, br_eqm, br_eqm', br_ltm, br_mlt, br_lem, br_mle, br_oiF, br_lgge, br_lgle, br_lggt, br_lglt, br_lgeq, br_zb, br_zb1, bV_s, bI_s, bL_s, zo_n, zo_s, c.rl, if_pos e1]
  · by_cases e2 : V 3 0 = 1
    · simp (disch := omega) only [w_ne, w_at, wl_ne, wl_at, wc_ne, wc_at, upd_at, upd_ne, upl_at, upl_ne, cpy_in0, zn_cl, zn_add, zn_mul, zn_sub, zn_pm, br_tt, br_ff, br_ltT, br_ltF, br_leT, br_leF, br_eqT, br_eqF, br_eqs, br_eqm, br_eqm', br_ltm, br_mlt, br_lem, br_mle, br_oiF, br_lgge, br_lgle, br_lggt, br_lglt, br_lgeq, br_zb, br_zb1, bV_s, bI_s, bL_s, zo_n, zo_s, c.rl, if_neg e1, if_pos e2, hl]
    · simp (disch := omega) only [w_ne, w_at, wl_ne, wl_at, wc_ne, wc_at, upd_at, upd_ne, upl_at, upl_ne, cpy_in0, zn_cl, zn_add, zn_mul, zn_sub, zn_pm, br_tt, br_ff, br_ltT, br_ltF, br_leT, br_leF, br_eqT, br_eqF, br_eqs, br_eqm, br_eqm', br_ltm, br_mlt, br_lem, br_mle, br_oiF, br_lgge, br_lgle, br_lggt, br_lglt, br_lgeq, br_zb, br_zb1, bV_s, bI_s, bL_s, zo_n, zo_s, c.rl, if_neg e1, if_neg e2]
      have e0 := s_sizeOf W c (d := d) (o := some (w.getD 0 0)) (by intro s hs; cases hs; exact hb 0 (by omega))
      rw [zo_s, sp_szo] at e0
      rw [e_Day_choose_39 hk (d + 1) 29998]
      simp (disch := omega) only [w_ne, w_at, wl_ne, wl_at, wc_ne, wc_at, upd_at, upd_ne, upl_at, upl_ne, cpy_in0, zn_cl, zn_add, zn_mul, zn_sub, zn_pm, br_tt, br_ff, br_ltT, br_ltF, br_leT, br_leF, br_eqT, br_eqF, br_eqs, br_eqm, br_eqm', br_ltm, br_mlt, br_lem, br_mle, br_oiF, br_lgge, br_lgle, br_lggt, br_lglt, br_lgeq, br_zb, br_zb1, bV_s, bI_s, bL_s, zo_n, zo_s, hl, hr, e0, c.sz, zn_iabs]
      exact lp_choose hk W c hw hl hr hb ht (w.length - 1) 1 29998 0 _ (by omega) (by omega) h0
theorem lp_greatest {k : Nat} (hk : sc_k k) {T V : Td} {E : Ev} (W : tw T V) {d : Nat} {w : List Nat} {m : am_M} (c : cx T V E m) (hw : w.length ≤ 5) (hl : m.1 k 3 = zn w.length) (hr : ∀ i, i < w.length → m.1 (k + 2) i = zn (w.getD i 0)) (hb : ∀ i, i < w.length → w.getD i 0 < T 0 0) (r : Nat) :
    ∀ (i f b : Nat), i + r = w.length → r < f → b < w.length →
    r_Day_greatest_4 k (d + 1) f (zn b) (zn i) m = some (some (.int (zn (sp_amax (fun i => T 2 (w.getD i 0)) r i b))), m) := by
  induction r with
  | zero =>
    intro i f b h1 h2 h3
    obtain ⟨f, rfl⟩ : ∃ g, f = g + 1 := ⟨f - 1, by omega⟩
    rw [sp_amax, e_Day_greatest_4 hk]
    simp (disch := omega) only [w_ne, w_at, wl_ne, wl_at, wc_ne, wc_at, upd_at, upd_ne, upl_at, upl_ne, cpy_in0, zn_cl, zn_add, zn_mul, zn_sub, zn_pm, br_tt, br_ff, br_ltT, br_ltF, br_leT, br_leF, br_eqT, br_eqF, br_eqs, br_eqm, br_eqm', br_ltm, br_mlt, br_lem, br_mle, br_oiF, br_lgge, br_lgle, br_lggt, br_lglt, br_lgeq, br_zb, br_zb1, bV_s, bI_s, bL_s, zo_n, zo_s, hl]
  | succ r ih =>
    intro i f b h1 h2 h3
    have := W.n; have a2 := W.sz _ (hb i (by omega)); have a3 := W.sz _ (hb b h3)
    obtain ⟨f, rfl⟩ : ∃ g, f = g + 1 := ⟨f - 1, by omega⟩
    have e0 := s_sizeOf W c (d := d) (o := some (w.getD i 0)) (by intro s hs; cases hs; exact hb i (by omega))
    have e1 := s_sizeOf W c (d := d) (o := some (w.getD b 0)) (by intro s hs; cases hs; exact hb b (by omega))
    rw [zo_s, sp_szo] at e0 e1
    rw [sp_amax, e_Day_greatest_4 hk]
    simp (disch := omega) only [w_ne, w_at, wl_ne, wl_at, wc_ne, wc_at, upd_at, upd_ne, upl_at, upl_ne, cpy_in0, zn_cl, zn_add, zn_mul, zn_sub, zn_pm, br_tt, br_ff, br_ltT, br_ltF, br_leT, br_leF, br_eqT, br_eqF, br_eqs, br_eqm, br_eqm', br_ltm, br_mlt, br_lem, br_mle, br_oiF, br_lgge, br_lgle, br_lggt, br_lglt, br_lgeq, br_zb, br_zb1, bV_s, bI_s, bL_s, zo_n, zo_s, hl, hr, e0, e1]
    by_cases e : T 2 (w.getD b 0) < T 2 (w.getD i 0)
    · rw [br_leF e (by omega), ih (i + 1) f i (by omega) (by omega) (by omega), if_pos e]
    · rw [br_leT (by omega) (by omega), ih (i + 1) f b (by omega) (by omega) h3, if_neg e]
theorem s_greatest {k : Nat} (hk : sc_k k) {T V : Td} {E : Ev} (W : tw T V) {d : Nat} {w : List Nat} {m : am_M} (c : cx T V E m) (hw : w.length ≤ 5) (hl : m.1 k 3 = zn w.length) (hr : ∀ i, i < w.length → m.1 (k + 2) i = zn (w.getD i 0)) (hb : ∀ i, i < w.length → w.getD i 0 < T 0 0) :
    am_c (d + 2) y_Day_greatest [.ref 26, .ref k] m = some (some (.int (zn (sp_gr T w))), m) := by
  rw [n_Day_greatest hk]
  by_cases h0 : 0 < w.length
  · exact lp_greatest hk W c hw hl hr hb (w.length - 1) 1 29999 0 (by omega) (by omega) h0
  · rw [e_Day_greatest_4 hk (d + 1) 29998]
    simp (disch := omega) only [w_ne, w_at, wl_ne, wl_at, wc_ne, wc_at, upd_at, upd_ne, upl_at, upl_ne, cpy_in0, zn_cl, zn_add, zn_mul, zn_sub, zn_pm, br_tt, br_ff, br_ltT, br_ltF, br_leT, br_leF, br_eqT, br_eqF, br_eqs, br_eqm, br_eqm', br_ltm, br_mlt, br_lem, br_mle, br_oiF, br_lgge, br_lgle, br_lggt, br_lglt, br_lgeq, br_zb, br_zb1, bV_s, bI_s, bL_s, zo_n, zo_s, hl]
    unfold sp_gr
    have : w.length = 0 := by omega
    rw [this]; rfl
