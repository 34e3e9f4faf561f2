/-! the reference's token -/
def sgc (K : Nat) : Nat := if K = 27 then 59 else if K = 28 then 40 else if K = 29 then 41 else if K = 36 then 43 else if K = 37 then 45 else if K = 38 then 42 else if K = 39 then 47 else 0
def rtk (K V : Nat) (a b : Int32) : Prop :=
  (K < 25 ∧ a = zn 1 ∧ b = zn (kk K)) ∨ (K = 25 ∧ a = zn 2 ∧ b = zn V) ∨ (K = 26 ∧ a = zn 3 ∧ ∃ r, b = zn r ∧ r ≤ 1000000 ∧ (V ≤ 99999 → r = V) ∧ (99999 < V → 99999 < r)) ∨ (sgc K ≠ 0 ∧ a = zn 4 ∧ b = zn (sgc K)) ∨ (30 ≤ K ∧ K ≤ 35 ∧ a = zn 5 ∧ b = zn (K - 30)) ∨ (K = 40 ∧ a = zn 0) ∨ (K = 41 ∧ (a = zn 6 ∨ (a = zn 4 ∧ b = zn 37)))
def kR (t : Tk) (m : am_M) : Prop :=
  (m.1 107 7 = zn t.2.2.2)
  ∧ (m.1 107 10 = zn t.2.2.1)
  ∧ (rtk t.1 t.2.1 (m.1 107 8) (m.1 107 9))
theorem kR.nx {t : Tk} {m : am_M} (hZ : kR t m) : m.1 107 7 = zn t.2.2.2 := hZ.1
theorem kR.at_ {t : Tk} {m : am_M} (hZ : kR t m) : m.1 107 10 = zn t.2.2.1 := hZ.2.1
theorem kR.k {t : Tk} {m : am_M} (hZ : kR t m) : rtk t.1 t.2.1 (m.1 107 8) (m.1 107 9) := hZ.2.2
theorem s_sm {X : Nat → Nat} {n d q : Nat} {m : am_M} (h : tR2 X n m) (hq : q < n) : am_c (d + 1) y_M_isSmall [.ref 107, .int (zn q)] m = some (some (.int (zb (ltr (X q)))), m) := by
  have h7 := h.n; have hx := h.x q hq
  rw [n_M_isSmall, h.l, br_leF (by omega) (by omega), br_oiF (by omega) (by omega), br_oiF (by omega) (by omega), zn_cl (by omega), h.b q hq]
  unfold ltr
  by_cases g : X q < 97
  · rw [br_ltT g (by omega), decide_eq_false (by omega)]; rfl
  · rw [br_ltF (by omega) (by omega)]
    by_cases g2 : 122 < X q
    · rw [br_ltT g2 (by omega), decide_eq_false (by omega)]; rfl
    · rw [br_ltF (by omega) (by omega), decide_eq_true (by omega)]; rfl
theorem s_sm0 {X : Nat → Nat} {n d : Nat} {m : am_M} (h : tR2 X n m) : am_c (d + 1) y_M_isSmall [.ref 107, .int (zn n)] m = some (some (.int (zn 0)), m) := by
  have h7 := h.n
  rw [n_M_isSmall, h.l, br_leT (by omega) (by omega)]
theorem s_dr {X : Nat → Nat} {n d q : Nat} {m : am_M} (h : tR2 X n m) (hq : q < n) : am_c (d + 1) y_M_isDigit [.ref 107, .int (zn q)] m = some (some (.int (zb (dgi (X q)))), m) := by
  have h7 := h.n; have hx := h.x q hq
  rw [n_M_isDigit, h.l, br_leF (by omega) (by omega), br_oiF (by omega) (by omega), br_oiF (by omega) (by omega), zn_cl (by omega), h.b q hq]
  unfold dgi
  by_cases g : X q < 48
  · rw [br_ltT g (by omega), decide_eq_false (by omega)]; rfl
  · rw [br_ltF (by omega) (by omega)]
    by_cases g2 : 57 < X q
    · rw [br_ltT g2 (by omega), decide_eq_false (by omega)]; rfl
    · rw [br_ltF (by omega) (by omega), decide_eq_true (by omega)]; rfl
theorem s_dr0 {X : Nat → Nat} {n d : Nat} {m : am_M} (h : tR2 X n m) : am_c (d + 1) y_M_isDigit [.ref 107, .int (zn n)] m = some (some (.int (zn 0)), m) := by
  have h7 := h.n
  rw [n_M_isDigit, h.l, br_leT (by omega) (by omega)]
theorem lq_skip {X : Nat → Nat} {n d : Nat} (r : Nat) : ∀ (p f : Nat) (m : am_M), p + r = n → r < f → tR2 X n m → m.1 107 7 = zn p →
    ∃ f' m', r_M_token_0 d f m = r_M_token_0 d (f' + 1) m' ∧ f ≤ f' + r + 1 ∧ m'.2 = m.2 ∧ (∀ c, c ≠ 107 → m'.1 c = m.1 c) ∧ (∀ i, i ≠ 7 → m'.1 107 i = m.1 107 i) ∧ m'.1 107 7 = zn (rn_ (fun j => blk (X j)) r p) := by
  induction r with
  | zero =>
    intro p f m h1 h2 h h3
    exact ⟨f - 1, m, by rw [Nat.sub_add_cancel (by omega)], by omega, rfl, fun _ _ => rfl, fun _ _ => rfl, h3⟩
  | succ r ih =>
    intro p f m h1 h2 h h3
    have h7 := h.n; have hx := h.x p (by omega)
    rw [rn_]
    by_cases g : blk (X p) = true
    · obtain ⟨f, rfl⟩ : ∃ g, f = g + 1 := ⟨f - 1, by omega⟩
      have f0 : fkR m (am_w m.1 107 7 (zn (p + 1)), m.2) := ⟨rfl, fun c hc => by simp (disch := omega) only [w_ne, w_at, wl_ne, wl_at, wc_ne, wc_at, upd_at, upd_ne, upl_at, upl_ne, cpy_in0, zn_cl, zn_add, zn_mul, zn_sub, zn_pm, br_tt, br_ff, br_ltT, br_ltF, br_leT, br_leF, br_eqT, br_eqF, br_eqs, br_eqm, br_eqm', br_ltm, br_mlt, br_lem, br_mle, br_oiF, br_lgge, br_lgle, br_lggt, br_lglt, br_lgeq, br_zb, br_zb1, bV_s, bI_s, bL_s, zo_n, zo_s], fun i hi => by simp (disch := omega) only [w_ne, w_at, wl_ne, wl_at, wc_ne, wc_at, upd_at, upd_ne, upl_at, upl_ne, cpy_in0, zn_cl, zn_add, zn_mul, zn_sub, zn_pm, br_tt, br_ff, br_ltT, br_ltF, br_leT, br_leF, br_eqT, br_eqF, br_eqs, br_eqm, br_eqm', br_ltm, br_mlt, br_lem, br_mle, br_oiF, br_lgge, br_lgle, br_lggt, br_lglt, br_lgeq, br_zb, br_zb1, bV_s, bI_s, bL_s, zo_n, zo_s]⟩
      obtain ⟨f', m', b1, b0, b2, b3, b4, b5⟩ := ih (p + 1) f (am_w m.1 107 7 (zn (p + 1)), m.2) (by omega) (by omega) (h.to f0) (by simp (disch := omega) only [w_ne, w_at, wl_ne, wl_at, wc_ne, wc_at, upd_at, upd_ne, upl_at, upl_ne, cpy_in0, zn_cl, zn_add, zn_mul, zn_sub, zn_pm, br_tt, br_ff, br_ltT, br_ltF, br_leT, br_leF, br_eqT, br_eqF, br_eqs, br_eqm, br_eqm', br_ltm, br_mlt, br_lem, br_mle, br_oiF, br_lgge, br_lgle, br_lggt, br_lglt, br_lgeq, br_zb, br_zb1, bV_s, bI_s, bL_s, zo_n, zo_s])
      rw [if_pos g]
      refine ⟨f', m', ?_, by omega, b2, fun c hc => by rw [b3 c hc]; simp (disch := omega) only [w_ne, w_at, wl_ne, wl_at, wc_ne, wc_at, upd_at, upd_ne, upl_at, upl_ne, cpy_in0, zn_cl, zn_add, zn_mul, zn_sub, zn_pm, br_tt, br_ff, br_ltT, br_ltF, br_leT, br_leF, br_eqT, br_eqF, br_eqs, br_eqm, br_eqm', br_ltm, br_mlt, br_lem, br_mle, br_oiF, br_lgge, br_lgle, br_lggt, br_lglt, br_lgeq, br_zb, br_zb1, bV_s, bI_s, bL_s, zo_n, zo_s], fun i hi => by rw [b4 i hi]; simp (disch := omega) only [w_ne, w_at, wl_ne, wl_at, wc_ne, wc_at, upd_at, upd_ne, upl_at, upl_ne, cpy_in0, zn_cl, zn_add, zn_mul, zn_sub, zn_pm, br_tt, br_ff, br_ltT, br_ltF, br_leT, br_leF, br_eqT, br_eqF, br_eqs, br_eqm, br_eqm', br_ltm, br_mlt, br_lem, br_mle, br_oiF, br_lgge, br_lgle, br_lggt, br_lglt, br_lgeq, br_zb, br_zb1, bV_s, bI_s, bL_s, zo_n, zo_s], b5⟩
      rw [e_M_token_0, h.l, h3, br_leF (by omega) (by omega), br_oiF (by omega) (by omega), br_oiF (by omega) (by omega), zn_cl (by omega), h.b p (by omega), zn_add, b1]
      unfold blk at g
      rw [decide_eq_true_eq] at g
      rcases g with q | q
      · rw [br_eqT q]
      · rw [br_eqF (by omega) (by omega) (by omega), br_eqT q]
    · rw [if_neg g]
      exact ⟨f - 1, m, by rw [Nat.sub_add_cancel (by omega)], by omega, rfl, fun _ _ => rfl, fun _ _ => rfl, h3⟩
theorem lq_90 {X : Nat → Nat} {n d : Nat} (r : Nat) : ∀ (p f : Nat) (m : am_M), p + r = n → r < f → tR2 X n m → m.1 107 7 = zn p →
    ∃ f' m', r_M_token_90 (d + 1) f m = r_M_token_90 (d + 1) (f' + 1) m' ∧ m'.2 = m.2 ∧ (∀ c, c ≠ 107 → m'.1 c = m.1 c) ∧ (∀ i, i ≠ 7 → m'.1 107 i = m.1 107 i) ∧ m'.1 107 7 = zn (rn_ (fun j => ltr (X j)) r p) := by
  induction r with
  | zero =>
    intro p f m h1 h2 h h3
    exact ⟨f - 1, m, by rw [Nat.sub_add_cancel (by omega)], rfl, fun _ _ => rfl, fun _ _ => rfl, h3⟩
  | succ r ih =>
    intro p f m h1 h2 h h3
    have h7 := h.n
    rw [rn_]
    by_cases g : ltr (X p) = true
    · obtain ⟨f, rfl⟩ : ∃ g, f = g + 1 := ⟨f - 1, by omega⟩
      have f0 : fkR m (am_w m.1 107 7 (zn (p + 1)), m.2) := ⟨rfl, fun c hc => by simp (disch := omega) only [w_ne, w_at, wl_ne, wl_at, wc_ne, wc_at, upd_at, upd_ne, upl_at, upl_ne, cpy_in0, zn_cl, zn_add, zn_mul, zn_sub, zn_pm, br_tt, br_ff, br_ltT, br_ltF, br_leT, br_leF, br_eqT, br_eqF, br_eqs, br_eqm, br_eqm', br_ltm, br_mlt, br_lem, br_mle, br_oiF, br_lgge, br_lgle, br_lggt, br_lglt, br_lgeq, br_zb, br_zb1, bV_s, bI_s, bL_s, zo_n, zo_s], fun i hi => by simp (disch := omega) only [w_ne, w_at, wl_ne, wl_at, wc_ne, wc_at, upd_at, upd_ne, upl_at, upl_ne, cpy_in0, zn_cl, zn_add, zn_mul, zn_sub, zn_pm, br_tt, br_ff, br_ltT, br_ltF, br_leT, br_leF, br_eqT, br_eqF, br_eqs, br_eqm, br_eqm', br_ltm, br_mlt, br_lem, br_mle, br_oiF, br_lgge, br_lgle, br_lggt, br_lglt, br_lgeq, br_zb, br_zb1, bV_s, bI_s, bL_s, zo_n, zo_s]⟩
      obtain ⟨f', m', b1, b2, b3, b4, b5⟩ := ih (p + 1) f (am_w m.1 107 7 (zn (p + 1)), m.2) (by omega) (by omega) (h.to f0) (by simp (disch := omega) only [w_ne, w_at, wl_ne, wl_at, wc_ne, wc_at, upd_at, upd_ne, upl_at, upl_ne, cpy_in0, zn_cl, zn_add, zn_mul, zn_sub, zn_pm, br_tt, br_ff, br_ltT, br_ltF, br_leT, br_leF, br_eqT, br_eqF, br_eqs, br_eqm, br_eqm', br_ltm, br_mlt, br_lem, br_mle, br_oiF, br_lgge, br_lgle, br_lggt, br_lglt, br_lgeq, br_zb, br_zb1, bV_s, bI_s, bL_s, zo_n, zo_s])
      rw [if_pos g]
      refine ⟨f', m', ?_, b2, fun c hc => by rw [b3 c hc]; simp (disch := omega) only [w_ne, w_at, wl_ne, wl_at, wc_ne, wc_at, upd_at, upd_ne, upl_at, upl_ne, cpy_in0, zn_cl, zn_add, zn_mul, zn_sub, zn_pm, br_tt, br_ff, br_ltT, br_ltF, br_leT, br_leF, br_eqT, br_eqF, br_eqs, br_eqm, br_eqm', br_ltm, br_mlt, br_lem, br_mle, br_oiF, br_lgge, br_lgle, br_lggt, br_lglt, br_lgeq, br_zb, br_zb1, bV_s, bI_s, bL_s, zo_n, zo_s], fun i hi => by rw [b4 i hi]; simp (disch := omega) only [w_ne, w_at, wl_ne, wl_at, wc_ne, wc_at, upd_at, upd_ne, upl_at, upl_ne, cpy_in0, zn_cl, zn_add, zn_mul, zn_sub, zn_pm, br_tt, br_ff, br_ltT, br_ltF, br_leT, br_leF, br_eqT, br_eqF, br_eqs, br_eqm, br_eqm', br_ltm, br_mlt, br_lem, br_mle, br_oiF, br_lgge, br_lgle, br_lggt, br_lglt, br_lgeq, br_zb, br_zb1, bV_s, bI_s, bL_s, zo_n, zo_s], b5⟩
      rw [e_M_token_90, h3, s_sm h (by omega), bI_s, br_zb, g, if_pos rfl, h3, zn_add, b1]
    · rw [if_neg g]
      exact ⟨f - 1, m, by rw [Nat.sub_add_cancel (by omega)], rfl, fun _ _ => rfl, fun _ _ => rfl, h3⟩
def nr_ (X : Nat → Nat) : Nat → Nat → Nat → Nat
  | 0, _, v => v
  | r + 1, p, v => nr_ X r (p + 1) (if 99999 < v then v else 10 * v + X p - 48)
theorem nr_nv {X : Nat → Nat} (r : Nat) : ∀ p v w, (∀ j, p ≤ j → j < p + r → 48 ≤ X j ∧ X j ≤ 57) → v ≤ 1000000 → w ≤ 1000000 → (v ≤ 99999 → w = v) → (99999 < v → 99999 < w) → nr_ X r p w ≤ 1000000 ∧ (nv X r p v ≤ 99999 → nr_ X r p w = nv X r p v) ∧ (99999 < nv X r p v → 99999 < nr_ X r p w) := by
  induction r with
  | zero => intro p v w _ _ hw h1 h2; exact ⟨hw, h1, h2⟩
  | succ r ih =>
    intro p v w hd hv hw h1 h2
    rw [nr_, nv]
    have hp := hd p (by omega) (by omega)
    apply ih (p + 1) _ _ (fun j h3 h4 => hd j (by omega) (by omega)) (Nat.min_le_left _ _)
    · split <;> omega
    · intro h3
      rcases Nat.lt_or_ge 99999 v with g | g
      · omega
      · have := h1 g; subst this; rw [if_neg (by omega)]; omega
    · intro h3
      rcases Nat.lt_or_ge 99999 v with g | g
      · rw [if_pos (h2 g)]; exact h2 g
      · have := h1 g; subst this; rw [if_neg (by omega)]; omega
theorem lq_213 {X : Nat → Nat} {n d : Nat} (r : Nat) : ∀ (p f v : Nat) (m : am_M), p + r = n → r < f → v ≤ 1000000 → tR2 X n m → m.1 107 7 = zn p → m.1 107 9 = zn v →
    ∃ m', r_M_token_213 (d + 1) f m = some (none, m') ∧ m'.2 = m.2 ∧ (∀ c, c ≠ 107 → m'.1 c = m.1 c) ∧ (∀ i, i ≠ 7 → i ≠ 9 → m'.1 107 i = m.1 107 i) ∧ m'.1 107 7 = zn (rn_ (fun j => dgi (X j)) r p) ∧ m'.1 107 9 = zn (nr_ X (rn_ (fun j => dgi (X j)) r p - p) p v) := by
  induction r with
  | zero =>
    intro p f v m h1 h2 hv h h3 h9
    obtain ⟨f, rfl⟩ : ∃ g, f = g + 1 := ⟨f - 1, by omega⟩
    refine ⟨m, ?_, rfl, fun _ _ => rfl, fun _ _ _ => rfl, h3, by rw [rn_, Nat.sub_self]; exact h9⟩
    rw [e_M_token_213, h3, show p = n from by omega, s_dr0 h, bI_s, br_eqT rfl]
  | succ r ih =>
    intro p f v m h1 h2 hv h h3 h9
    have hn := h.n; have hx := h.x p (by omega)
    obtain ⟨f, rfl⟩ : ∃ g, f = g + 1 := ⟨f - 1, by omega⟩
    rw [rn_, e_M_token_213, h3, s_dr h (by omega), bI_s, br_zb, h3, h9]
    by_cases g : dgi (X p) = true
    · have gd : 48 ≤ X p ∧ X p ≤ 57 := of_decide_eq_true g
      have hr := (rn_le (P := fun j => dgi (X j)) r (p + 1)).1
      obtain ⟨w, hw⟩ : ∃ w, w = (if 99999 < v then v else 10 * v + X p - 48) := ⟨_, rfl⟩
      have hw2 : w ≤ 1000000 := by rw [hw]; split <;> omega
      have f0 : fkR m (am_w (am_w m.1 107 9 (zn w)) 107 7 (zn (p + 1)), m.2) := ⟨rfl, fun c hc => by simp (disch := omega) only [w_ne, w_at, wl_ne, wl_at, wc_ne, wc_at, upd_at, upd_ne, upl_at, upl_ne, cpy_in0, zn_cl, zn_add, zn_mul, zn_sub, zn_pm, br_tt, br_ff, br_ltT, br_ltF, br_leT, br_leF, br_eqT, br_eqF, br_eqs, br_eqm, br_eqm', br_ltm, br_mlt, br_lem, br_mle, br_oiF, br_lgge, br_lgle, br_lggt, br_lglt, br_lgeq, br_zb, br_zb1, bV_s, bI_s, bL_s, zo_n, zo_s], fun i hi => by simp (disch := omega) only [w_ne, w_at, wl_ne, wl_at, wc_ne, wc_at, upd_at, upd_ne, upl_at, upl_ne, cpy_in0, zn_cl, zn_add, zn_mul, zn_sub, zn_pm, br_tt, br_ff, br_ltT, br_ltF, br_leT, br_leF, br_eqT, br_eqF, br_eqs, br_eqm, br_eqm', br_ltm, br_mlt, br_lem, br_mle, br_oiF, br_lgge, br_lgle, br_lggt, br_lglt, br_lgeq, br_zb, br_zb1, bV_s, bI_s, bL_s, zo_n, zo_s]⟩
      obtain ⟨m', b1, b2, b3, b4, b5, b6⟩ := ih (p + 1) f w (am_w (am_w m.1 107 9 (zn w)) 107 7 (zn (p + 1)), m.2) (by omega) (by omega) hw2 (h.to f0) (by simp (disch := omega) only [w_ne, w_at, wl_ne, wl_at, wc_ne, wc_at, upd_at, upd_ne, upl_at, upl_ne, cpy_in0, zn_cl, zn_add, zn_mul, zn_sub, zn_pm, br_tt, br_ff, br_ltT, br_ltF, br_leT, br_leF, br_eqT, br_eqF, br_eqs, br_eqm, br_eqm', br_ltm, br_mlt, br_lem, br_mle, br_oiF, br_lgge, br_lgle, br_lggt, br_lglt, br_lgeq, br_zb, br_zb1, bV_s, bI_s, bL_s, zo_n, zo_s]) (by simp (disch := omega) only [w_ne, w_at, wl_ne, wl_at, wc_ne, wc_at, upd_at, upd_ne, upl_at, upl_ne, cpy_in0, zn_cl, zn_add, zn_mul, zn_sub, zn_pm, br_tt, br_ff, br_ltT, br_ltF, br_leT, br_leF, br_eqT, br_eqF, br_eqs, br_eqm, br_eqm', br_ltm, br_mlt, br_lem, br_mle, br_oiF, br_lgge, br_lgle, br_lggt, br_lglt, br_lgeq, br_zb, br_zb1, bV_s, bI_s, bL_s, zo_n, zo_s])
      rw [if_pos g, if_pos g]
      refine ⟨m', ?_, b2, fun c hc => by rw [b3 c hc]; simp (disch := omega) only [w_ne, w_at, wl_ne, wl_at, wc_ne, wc_at, upd_at, upd_ne, upl_at, upl_ne, cpy_in0, zn_cl, zn_add, zn_mul, zn_sub, zn_pm, br_tt, br_ff, br_ltT, br_ltF, br_leT, br_leF, br_eqT, br_eqF, br_eqs, br_eqm, br_eqm', br_ltm, br_mlt, br_lem, br_mle, br_oiF, br_lgge, br_lgle, br_lggt, br_lglt, br_lgeq, br_zb, br_zb1, bV_s, bI_s, bL_s, zo_n, zo_s], fun i i1 i2 => by rw [b4 i i1 i2]; simp (disch := omega) only [w_ne, w_at, wl_ne, wl_at, wc_ne, wc_at, upd_at, upd_ne, upl_at, upl_ne, cpy_in0, zn_cl, zn_add, zn_mul, zn_sub, zn_pm, br_tt, br_ff, br_ltT, br_ltF, br_leT, br_leF, br_eqT, br_eqF, br_eqs, br_eqm, br_eqm', br_ltm, br_mlt, br_lem, br_mle, br_oiF, br_lgge, br_lgle, br_lggt, br_lglt, br_lgeq, br_zb, br_zb1, bV_s, bI_s, bL_s, zo_n, zo_s], b5, ?_⟩
      · by_cases g9 : v ≤ 99999
        · rw [if_neg (by omega)] at hw
          rw [br_leT g9 (by omega), br_oiF (by omega) (by omega), zn_cl (by omega), h.b p (by omega), zn_mul, zn_add, zn_sub (by omega), zn_add, ← hw, b1]
        · rw [if_pos (by omega)] at hw
          rw [br_leF (by omega) (by omega), zn_add, ← hw, b1]
      · rw [b6, show rn_ (fun j => dgi (X j)) r (p + 1) - p = rn_ (fun j => dgi (X j)) r (p + 1) - (p + 1) + 1 from by omega, nr_, ← hw]
    · rw [if_neg g, if_neg g, Nat.sub_self]
      exact ⟨m, rfl, rfl, fun _ _ => rfl, fun _ _ _ => rfl, h3, h9⟩
def hr6 (u : Nat → Nat) : Nat → Nat
  | 0 => 0
  | i + 1 => hr6 u i * 32 + u i
theorem lq_pk {X : Nat → Nat} {n d a L : Nat} {m : am_M} (h : tR2 X n m) (hL : L ≤ 6) (haL : a + L ≤ n) (hl : ∀ i, i < L → ltr (X (a + i)) = true) (r : Nat) : ∀ i f, i + r = 6 → r < f → hr6 (ud X a L) i < 32 ^ i → r_M_packed_5 d f (zn a) (zn (a + L)) (zn (hr6 (ud X a L) i)) (zn (a + i)) m = some (some (.int (zn (hr6 (ud X a L) 6))), m) := by
  have h7 := h.n
  have p32 : ∀ i, i < 7 → 32 ^ i ≤ 1073741824 := by decide
  induction r with
  | zero =>
    intro i f h1 h2 hb
    obtain ⟨f, rfl⟩ : ∃ g, f = g + 1 := ⟨f - 1, by omega⟩
    rw [e_M_packed_5, zn_add, br_leT (by omega) (by omega), show i = 6 from by omega]
  | succ r ih =>
    intro i f h1 h2 hb
    obtain ⟨f, rfl⟩ : ∃ g, f = g + 1 := ⟨f - 1, by omega⟩
    have p1 := p32 i (by omega); have p2 := p32 (i + 1) (by omega)
    have hu : ud X a L i < 32 := by
      unfold ud
      by_cases g : i < L
      · have : 97 ≤ X (a + i) ∧ X (a + i) ≤ 122 := of_decide_eq_true (hl i g)
        rw [if_pos g]; omega
      · rw [if_neg g]; omega
    have hb2 : hr6 (ud X a L) (i + 1) < 32 ^ (i + 1) := by rw [hr6, Nat.pow_succ]; omega
    have e1 : hr6 (ud X a L) i <<< 5 = hr6 (ud X a L) i * 32 := by rw [Nat.shiftLeft_eq]
    have hor : hr6 (ud X a L) i <<< 5 ||| ud X a L i = hr6 (ud X a L) (i + 1) := by
      rw [← Nat.shiftLeft_add_eq_or_of_lt (show ud X a L i < 2 ^ 5 from hu), e1, hr6]
    have hsh : hr6 (ud X a L) i <<< 5 < 2147483648 := by rw [e1]; rw [Nat.pow_succ] at p2; omega
    have hx : (zn (hr6 (ud X a L) i) <<< (zn 5 &&& 31)) ||| zn (ud X a L i) = zn (hr6 (ud X a L) (i + 1)) := by
      rw [zn_shl (by omega) (by omega), zn_or hsh (by omega), hor]
    rw [e_M_packed_5, zn_add, br_leF (by omega) (by omega), zn_add]
    by_cases g : i < L
    · have gl : 97 ≤ X (a + i) ∧ X (a + i) ≤ 122 := of_decide_eq_true (hl i g)
      have hui : ud X a L i = X (a + i) - 96 := by unfold ud; rw [if_pos g]
      rw [br_leF (by omega) (by omega), br_oiF (by omega) (by omega), zn_cl (by omega), h.b _ (by omega), zn_sub (by omega), ← hui, hx, Nat.add_assoc]
      exact ih (i + 1) f (by omega) (by omega) hb2
    · have hui : ud X a L i = 0 := by unfold ud; rw [if_neg g]
      rw [hui] at hx
      rw [br_leT (by omega) (by omega), hx, Nat.add_assoc]
      exact ih (i + 1) f (by omega) (by omega) hb2
theorem hr6_pk {u : Nat → Nat} : hr6 u 6 = pk6 u := by simp [hr6, pk6]
theorem s_packed {X : Nat → Nat} {n d a L : Nat} {m : am_M} (h : tR2 X n m) (hL : L ≤ 6) (haL : a + L ≤ n) (hl : ∀ i, i < L → ltr (X (a + i)) = true) : am_c (d + 1) y_M_packed [.ref 107, .int (zn a), .int (zn (a + L))] m = some (some (.int (zn (pkp X a L))), m) := by
  have := lq_pk (d := d) h hL haL hl 6 0 29999 (by omega) (by omega) (by show 0 < 1; omega)
  rw [n_M_packed, pkp_6u hL, ← hr6_pk]
  exact this
