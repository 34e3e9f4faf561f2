/-! the day of the class: dusk, lamps, thieves, noon -/
theorem opt_c {α : Type} (o : Option α) : o = none ∨ ∃ s, o = some s := by
  cases o with
  | none => exact Or.inl rfl
  | some s => exact Or.inr ⟨s, rfl⟩
theorem wor_some {T V : Td} {E : Ev} (hE : evW E) {day : Nat} {h : Hs} {l t : Nat} {v : Int64} (e : sp_wor T V E day h l t = some v) : v ≠ lmin := hE.2 _ _ _ (fun _ _ => nm_bd) e
theorem lmin_eq {o : Option Int64} (h : ∀ v, o = some v → v ≠ lmin) : (o.getD lmin = lmin) ↔ o = none := by
  cases o with
  | none => simp
  | some v => simp [h v rfl]
/-- the late values: the first i of them lie in their row -/
theorem lp_late {k : Nat} (hk : sc_k k) {T V : Td} {E : Ev} (W : tw T V) (hE : evW E) {h : Hs} {day d : Nat} (hb : ∀ i s, i < T 0 0 → h i = some s → s < T 0 0) (r : Nat) :
    ∀ (i f : Nat) (x : Option Value) (m : am_M), i + r = T 0 0 → r < f → cx T V E m → (∀ i, i < T 0 0 → m.1 (k + 1) i = zo (h i)) → m.1 k 10 = zn day → (∀ q, q < i → m.2 50 q = sp_late T V E day h q) →
    ∃ f' x' y' m', r_Day_gather_2 k (d + 3) f (zn i) x m = r_Day_gather_57 k (d + 3) f' (zn 0) x' y' m' ∧ f ≤ f' + r + 1 ∧ m'.1 = m.1 ∧ (∀ c, c ≠ 44 → c ≠ 45 → c ≠ 50 → m'.2 c = m.2 c) ∧ ∀ q, q < T 0 0 → m'.2 50 q = sp_late T V E day h q := by
  induction r with
  | zero =>
    intro i f x m h1 h2 c hh hd hl
    have := W.n
    obtain ⟨f, rfl⟩ : ∃ g, f = g + 1 := ⟨f - 1, by omega⟩
    refine ⟨f, x, none, m, ?_, by omega, rfl, fun _ _ _ _ => rfl, fun q hq => hl q (by omega)⟩
    rw [e_Day_gather_2 hk]
    simp (disch := omega) only [w_ne, w_at, wl_ne, wl_at, wc_ne, wc_at, upd_at, upd_ne, upl_at, upl_ne, cpy_in0, zn_cl, zn_add, zn_mul, zn_sub, zn_pm, br_tt, br_ff, br_ltT, br_ltF, br_leT, br_leF, br_eqT, br_eqF, br_eqs, br_eqm, br_eqm', br_ltm, br_mlt, br_lem, br_mle, br_oiF, br_lgge, br_lgle, br_lggt, br_lglt, br_lgeq, br_zb, br_zb1, bV_s, bI_s, bL_s, zo_n, zo_s, c.n]
  | succ r ih =>
    intro i f x m h1 h2 c hh hd hl
    have := W.n
    obtain ⟨f, rfl⟩ : ∃ g, f = g + 1 := ⟨f - 1, by omega⟩
    obtain ⟨m1, a1, a2, a3⟩ := s_worth hk W hE c hh hb hd (d := d) (t := i) (l := 0) (by omega) (by omega)
    have a4 : (m1.1 47 i) = zn (V 0 i) := by rw [a2]; exact c.cm i (by omega)
    obtain ⟨f', x', y', m', b1, b2, b3, b4, b5⟩ := ih (i + 1) f (some (.long ((sp_wor T V E day h 0 i).getD lmin))) (m1.1, am_wl m1.2 50 i (sp_late T V E day h i)) (by omega) (by omega) (c.same a2) (by show ∀ i, _ → m1.1 _ i = _; rw [a2]; exact hh) (by show m1.1 k 10 = _; rw [a2]; exact hd) (by
      intro q hq
      by_cases e : q = i
      · subst e; simp (disch := omega) only [w_ne, w_at, wl_ne, wl_at, wc_ne, wc_at, upd_at, upd_ne, upl_at, upl_ne, cpy_in0, zn_cl, zn_add, zn_mul, zn_sub, zn_pm, br_tt, br_ff, br_ltT, br_ltF, br_leT, br_leF, br_eqT, br_eqF, br_eqs, br_eqm, br_eqm', br_ltm, br_mlt, br_lem, br_mle, br_oiF, br_lgge, br_lgle, br_lggt, br_lglt, br_lgeq, br_zb, br_zb1, bV_s, bI_s, bL_s, zo_n, zo_s]
      · simp (disch := omega) only [w_ne, w_at, wl_ne, wl_at, wc_ne, wc_at, upd_at, upd_ne, upl_at, upl_ne, cpy_in0, zn_cl, zn_add, zn_mul, zn_sub, zn_pm, br_tt, br_ff, br_ltT, br_ltF, br_leT, br_leF, br_eqT, br_eqF, br_eqs, br_eqm, br_eqm', br_ltm, br_mlt, br_lem, br_mle, br_oiF, br_lgge, br_lgle, br_lggt, br_lglt, br_lgeq, br_zb, br_zb1, bV_s, bI_s, bL_s, zo_n, zo_s]
        rw [a3 50 (by omega) (by omega)]
        exact hl q (by omega))
    refine ⟨f', x', y', m', ?_, by omega, b3.trans a2, ?_, b5⟩
    · rw [← b1, e_Day_gather_2 hk]
      simp (disch := omega) only [w_ne, w_at, wl_ne, wl_at, wc_ne, wc_at, upd_at, upd_ne, upl_at, upl_ne, cpy_in0, zn_cl, zn_add, zn_mul, zn_sub, zn_pm, br_tt, br_ff, br_ltT, br_ltF, br_leT, br_leF, br_eqT, br_eqF, br_eqs, br_eqm, br_eqm', br_ltm, br_mlt, br_lem, br_mle, br_oiF, br_lgge, br_lgle, br_lggt, br_lglt, br_lgeq, br_zb, br_zb1, bV_s, bI_s, bL_s, zo_n, zo_s, c.n, a1, a4, lmin_eq (fun v => wor_some hE)]
      unfold sp_late
      cases e : sp_wor T V E day h 0 i with
      | none => simp only [if_true, Option.getD_none]
      | some v => simp only [reduceCtorEq, if_false, Option.getD_some]
    · intro q q1 q2 q3
      rw [b4 q q1 q2 q3]
      simp (disch := omega) only [w_ne, w_at, wl_ne, wl_at, wc_ne, wc_at, upd_at, upd_ne, upl_at, upl_ne, cpy_in0, zn_cl, zn_add, zn_mul, zn_sub, zn_pm, br_tt, br_ff, br_ltT, br_ltF, br_leT, br_leF, br_eqT, br_eqF, br_eqs, br_eqm, br_eqm', br_ltm, br_mlt, br_lem, br_mle, br_oiF, br_lgge, br_lgle, br_lggt, br_lglt, br_lgeq, br_zb, br_zb1, bV_s, bI_s, bL_s, zo_n, zo_s]
      exact a3 q q1 q2
/-- who goes next -/
theorem lp_next {k : Nat} (hk : sc_k k) {T V : Td} {E : Ev} (W : tw T V) {h : Hs} {g : Nat → Int64} {d : Nat} {x2 : Int32} {m : am_M} (c : cx T V E m) (hh : ∀ i, i < T 0 0 → m.1 (k + 1) i = zo (h i)) (hb : ∀ i s, i < T 0 0 → h i = some s → s < T 0 0) (hg : ∀ q, q < T 0 0 → m.2 50 q = g q) (r : Nat) :
    ∀ (i f : Nat) (acc : Option Nat), i + r = T 0 0 → r < f → (∀ j, acc = some j → j < T 0 0) →
    ∃ f', r_Day_gather_73 k d f x2 (zo acc) (zn i) m = r_Day_gather_73 k d (f' + 1) x2 (zo (sp_min (fun t => (h t).isSome) g r i acc)) (zn (T 0 0)) m ∧ f ≤ f' + r + 1 := by
  induction r with
  | zero =>
    intro i f acc h1 h2 h3
    refine ⟨f - 1, ?_, by omega⟩
    rw [sp_min, Nat.sub_add_cancel (by omega)]
    have : i = T 0 0 := by omega
    rw [this]
  | succ r ih =>
    intro i f acc h1 h2 h3
    have := W.n
    obtain ⟨f, rfl⟩ : ∃ g, f = g + 1 := ⟨f - 1, by omega⟩
    rw [sp_min]
    have key : ∀ acc', (∀ j, acc' = some j → j < T 0 0) → acc' = (if (h i).isSome = true then sp_bt g i acc else acc) → r_Day_gather_73 k d (f + 1) x2 (zo acc) (zn i) m = r_Day_gather_73 k d f x2 (zo acc') (zn (i + 1)) m → ∃ f', r_Day_gather_73 k d (f + 1) x2 (zo acc) (zn i) m = r_Day_gather_73 k d (f' + 1) x2 (zo (sp_min (fun t => (h t).isSome) g r (i + 1) (if (h i).isSome = true then sp_bt g i acc else acc))) (zn (T 0 0)) m ∧ f + 1 ≤ f' + (r + 1) + 1 := by
      intro acc' q1 q2 q3
      obtain ⟨f', b1, b2⟩ := ih (i + 1) f acc' (by omega) (by omega) q1
      exact ⟨f', by rw [q3, b1, ← q2], by omega⟩
    rcases opt_c (h i) with e | ⟨s, e⟩
    · refine key acc h3 (by simp [e]) ?_
      rw [e_Day_gather_73 hk]
      simp (disch := omega) only [w_ne, w_at, wl_ne, wl_at, wc_ne, wc_at, upd_at, upd_ne, upl_at, upl_ne, cpy_in0, zn_cl, zn_add, zn_mul, zn_sub, zn_pm, br_tt, br_ff, br_ltT, br_ltF, br_leT, br_leF, br_eqT, br_eqF, br_eqs, br_eqm, br_eqm', br_ltm, br_mlt, br_lem, br_mle, br_oiF, br_lgge, br_lgle, br_lggt, br_lglt, br_lgeq, br_zb, br_zb1, bV_s, bI_s, bL_s, zo_n, zo_s, c.n, hh, e]
    · have := hb i s (by omega) e
      rcases opt_c acc with ha | ⟨j, ha⟩
      · subst ha
        refine key (some i) (by intro j hj; cases hj; omega) (by simp [e, sp_bt]) ?_
        rw [e_Day_gather_73 hk]
        simp (disch := omega) only [w_ne, w_at, wl_ne, wl_at, wc_ne, wc_at, upd_at, upd_ne, upl_at, upl_ne, cpy_in0, zn_cl, zn_add, zn_mul, zn_sub, zn_pm, br_tt, br_ff, br_ltT, br_ltF, br_leT, br_leF, br_eqT, br_eqF, br_eqs, br_eqm, br_eqm', br_ltm, br_mlt, br_lem, br_mle, br_oiF, br_lgge, br_lgle, br_lggt, br_lglt, br_lgeq, br_zb, br_zb1, bV_s, bI_s, bL_s, zo_n, zo_s, c.n, hh, e]
      · subst ha
        have := h3 j rfl
        by_cases hlt : g i < g j
        · refine key (some i) (by intro j hj; cases hj; omega) (by simp [e, sp_bt, hlt]) ?_
          rw [e_Day_gather_73 hk]
          simp (disch := omega) only [w_ne, w_at, wl_ne, wl_at, wc_ne, wc_at, upd_at, upd_ne, upl_at, upl_ne, cpy_in0, zn_cl, zn_add, zn_mul, zn_sub, zn_pm, br_tt, br_ff, br_ltT, br_ltF, br_leT, br_leF, br_eqT, br_eqF, br_eqs, br_eqm, br_eqm', br_ltm, br_mlt, br_lem, br_mle, br_oiF, br_lgge, br_lgle, br_lggt, br_lglt, br_lgeq, br_zb, br_zb1, bV_s, bI_s, bL_s, zo_n, zo_s, c.n, hh, e, hg]
          rw [if_neg (Int64.not_le.mpr hlt)]
        · refine key (some j) h3 (by simp [e, sp_bt, hlt]) ?_
          rw [e_Day_gather_73 hk]
          simp (disch := omega) only [w_ne, w_at, wl_ne, wl_at, wc_ne, wc_at, upd_at, upd_ne, upl_at, upl_ne, cpy_in0, zn_cl, zn_add, zn_mul, zn_sub, zn_pm, br_tt, br_ff, br_ltT, br_ltF, br_leT, br_leF, br_eqT, br_eqF, br_eqs, br_eqm, br_eqm', br_ltm, br_mlt, br_lem, br_mle, br_oiF, br_lgge, br_lgle, br_lggt, br_lglt, br_lgeq, br_zb, br_zb1, bV_s, bI_s, bL_s, zo_n, zo_s, c.n, hh, e, hg]
          rw [if_pos (Int64.not_lt.mp hlt)]
theorem lp_gath {k : Nat} (hk : sc_k k) {T V : Td} {E : Ev} (W : tw T V) {ord : List Nat} {U : Nat → Nat} {mt : List (Nat × Nat)} {day d : Nat} {g : Nat → Int64} (r : Nat) :
    ∀ (i f : Nat) (h : Hs) (w : List Nat) (x y : Option Value) (m : am_M), i + r = T 0 0 → 10 * r < f → cx T V E m → sn k T ord U mt h w day m → hwI (T 0 0) h w → (∀ q, q < T 0 0 → m.2 50 q = g q) →
    ∃ m', r_Day_gather_57 k (d + 1) f (zn i) x y m = some (none, m') ∧ sn k T ord U mt (sp_gath (T 0 0) g r h w).1 (sp_gath (T 0 0) g r h w).2 day m' ∧ fsd k m m' := by
  induction r with
  | zero =>
    intro i f h w x y m h1 h2 c s I hg
    have := W.n
    obtain ⟨f, rfl⟩ : ∃ g, f = g + 1 := ⟨f - 1, by omega⟩
    refine ⟨m, ?_, s, fsd_refl k m⟩
    rw [e_Day_gather_57 hk]
    simp (disch := omega) only [w_ne, w_at, wl_ne, wl_at, wc_ne, wc_at, upd_at, upd_ne, upl_at, upl_ne, cpy_in0, zn_cl, zn_add, zn_mul, zn_sub, zn_pm, br_tt, br_ff, br_ltT, br_ltF, br_leT, br_leF, br_eqT, br_eqF, br_eqs, br_eqm, br_eqm', br_ltm, br_mlt, br_lem, br_mle, br_oiF, br_lgge, br_lgle, br_lggt, br_lglt, br_lgeq, br_zb, br_zb1, bV_s, bI_s, bL_s, zo_n, zo_s, c.n]
  | succ r ih =>
    intro i f h w x y m h1 h2 c s I hg
    have := W.n; have := sc_lo hk
    obtain ⟨f, rfl⟩ : ∃ g, f = g + 1 := ⟨f - 1, by omega⟩
    obtain ⟨f', b1, b2⟩ := lp_next hk W (d := d + 1) (x2 := zn i) c s.hs (fun i s hi e => hw_h I hi e) hg (T 0 0) 0 f none (by omega) (by omega) (by intro j hj; cases hj)
    rw [e_Day_gather_57 hk]
    simp (disch := omega) only [w_ne, w_at, wl_ne, wl_at, wc_ne, wc_at, upd_at, upd_ne, upl_at, upl_ne, cpy_in0, zn_cl, zn_add, zn_mul, zn_sub, zn_pm, br_tt, br_ff, br_ltT, br_ltF, br_leT, br_leF, br_eqT, br_eqF, br_eqs, br_eqm, br_eqm', br_ltm, br_mlt, br_lem, br_mle, br_oiF, br_lgge, br_lgle, br_lggt, br_lglt, br_lgeq, br_zb, br_zb1, bV_s, bI_s, bL_s, zo_n, zo_s, c.n]
    rw [← zo_n, b1]
    cases e : sp_min (fun t => (h t).isSome) g (T 0 0) 0 none with
    | none =>
      obtain ⟨m', a1, a2, a3⟩ := ih (i + 1) f' h w (some (.int zm)) (some (.int (zn (T 0 0)))) m (by omega) (by omega) c s I hg
      refine ⟨m', ?_, ?_, a3⟩
      · rw [e_Day_gather_73 hk]
        simp (disch := omega) only [w_ne, w_at, wl_ne, wl_at, wc_ne, wc_at, upd_at, upd_ne, upl_at, upl_ne, cpy_in0, zn_cl, zn_add, zn_mul, zn_sub, zn_pm, br_tt, br_ff, br_ltT, br_ltF, br_leT, br_leF, br_eqT, br_eqF, br_eqs, br_eqm, br_eqm', br_ltm, br_mlt, br_lem, br_mle, br_oiF, br_lgge, br_lgle, br_lggt, br_lglt, br_lgeq, br_zb, br_zb1, bV_s, bI_s, bL_s, zo_n, zo_s, c.n, a1]
      · rw [gath_none e] at a2 ⊢; exact a2
    | some t =>
      obtain ⟨ht, q, e1⟩ := gath_pick e
      have hl : w.length < 5 := by
        have h3 := I.2
        have h4 : sp_ne (h t) ≤ sp_cn (T 0 0) h := sum_ge (f := fun i => sp_ne (h i)) (T 0 0) 0 t (by omega) (by omega)
        rw [e1] at h4; simp only [sp_ne, reduceCtorEq, if_false] at h4; omega
      obtain ⟨m1, a1, a2, a3⟩ := s_bring hk (d := d) (by omega) hl s.dd ht e1
      obtain ⟨m', c1, c2, c3⟩ := ih (i + 1) f' (sp_set h t none) (w ++ [q]) (some (.int (zn t))) (some (.int (zn (T 0 0)))) m1 (by omega) (by omega) (c.fs hk a3) (s.to a2 a3) (hw_bring I ht e1) (by rw [a3.1]; exact hg)
      refine ⟨m', ?_, ?_, fsd_tr a3 c3⟩
      · rw [e_Day_gather_73 hk]
        simp (disch := omega) only [w_ne, w_at, wl_ne, wl_at, wc_ne, wc_at, upd_at, upd_ne, upl_at, upl_ne, cpy_in0, zn_cl, zn_add, zn_mul, zn_sub, zn_pm, br_tt, br_ff, br_ltT, br_ltF, br_leT, br_leF, br_eqT, br_eqF, br_eqs, br_eqm, br_eqm', br_ltm, br_mlt, br_lem, br_mle, br_oiF, br_lgge, br_lgle, br_lggt, br_lglt, br_lgeq, br_zb, br_zb1, bV_s, bI_s, bL_s, zo_n, zo_s, c.n, a1, c1]
      · rw [gath_some e e1]; exact c2
/-- at most the day's long cells, who has what and the wall -/
def fdy (k : Nat) (m m' : am_M) : Prop := (∀ c, c ≠ 44 → c ≠ 45 → c ≠ 50 → c ≠ 51 → m'.2 c = m.2 c) ∧ (∀ c, c ≠ k → c ≠ k + 1 → c ≠ k + 2 → m'.1 c = m.1 c) ∧ ∀ i, i ≠ 3 → i ≠ 10 → m'.1 k i = m.1 k i
theorem fdy_tr {k : Nat} {m m1 m2 : am_M} (h : fdy k m m1) (g : fdy k m1 m2) : fdy k m m2 :=
  ⟨fun c a b e f => (g.1 c a b e f).trans (h.1 c a b e f), fun c a b e => (g.2.1 c a b e).trans (h.2.1 c a b e), fun i e f => (g.2.2 i e f).trans (h.2.2 i e f)⟩
theorem fsd.y {k : Nat} {m m' : am_M} (f : fsd k m m') : fdy k m m' := ⟨fun c _ _ _ _ => by rw [f.1], f.2.1, fun i e _ => f.2.2 i e⟩
theorem cx.fy {k : Nat} (hk : sc_k k) {T V : Td} {E : Ev} {m m' : am_M} (h : cx T V E m) (f : fdy k m m') : cx T V E m' := by
  have := sc_lo hk
  exact h.mono (fun c a b => f.2.1 c (by omega) (by omega) (by omega))
theorem s_gather {k : Nat} (hk : sc_k k) {T V : Td} {E : Ev} (W : tw T V) (hE : evW E) {ord : List Nat} {U : Nat → Nat} {mt : List (Nat × Nat)} {day d : Nat} {h : Hs} {w : List Nat} {m : am_M} (c : cx T V E m) (s : sn k T ord U mt h w day m) (I : hwI (T 0 0) h w) :
    ∃ m', am_c (d + 4) y_Day_gather [.ref 26, .ref k] m = some (none, m') ∧ sn k T ord U mt (sp_gat T V E day h w).1 (sp_gat T V E day h w).2 day m' ∧ fdy k m m' := by
  have := W.n
  obtain ⟨f', x', y', m1, a1, a2, a3, a4, a5⟩ := lp_late hk W hE (d := d) (fun i s hi e => hw_h I hi e) (T 0 0) 0 29999 none m (by omega) (by omega) c s.hs s.dy (fun q hq => by omega)
  obtain ⟨m2, b1, b2, b3⟩ := lp_gath hk W (d := d + 2) (T 0 0) 0 f' h w x' y' m1 (by omega) (by omega) (c.same a3) (s.same a3) I a5
  refine ⟨m2, ?_, b2, ?_⟩
  · rw [n_Day_gather hk, a1, b1]
  · exact fdy_tr ⟨fun c c1 c2 c3 _ => a4 c c1 c2 c3, fun c _ _ _ => by rw [a3], fun i _ _ => by rw [a3]⟩ b3.y
