/-! swaps, swap: the reference's search, the calls -/
theorem d6_st {c0 x : Nat} (h : d6 c0) (hx : x < 120) : d6 (st c0 x) := fun t ht => by rw [dg_st ht]; exact h _ ((pc_ok x hx).2 t ht)
theorem lq_l2 {d : Nat} (r : Nat) : ∀ (i f : Nat) (m : am_M), i + r = 7776 → r < f → (∀ c, c < i → m.1 146 c = zb false) →
    ∃ f' m', r_M_laySwaps_2 d f (zn i) m = r_M_laySwaps_2 d (f' + 1) (zn 7776) m' ∧ f ≤ f' + r + 1 ∧ m'.2 = m.2 ∧ (∀ c, c ≠ 146 → m'.1 c = m.1 c) ∧ ∀ c, c < 7776 → m'.1 146 c = zb false := by
  induction r with
  | zero =>
    intro i f m h1 h2 h3
    refine ⟨f - 1, m, ?_, by omega, rfl, fun _ _ => rfl, fun j hj => h3 j (by omega)⟩
    rw [Nat.sub_add_cancel (by omega), show i = 7776 from by omega]
  | succ r ih =>
    intro i f m h1 h2 h3
    obtain ⟨f, rfl⟩ : ∃ g, f = g + 1 := ⟨f - 1, by omega⟩
    obtain ⟨f', m', b1, b0, b2, b3, b4⟩ := ih (i + 1) f (am_w m.1 146 i (zn 0), m.2) (by omega) (by omega) (by
      intro j hj
      by_cases q : j = i
      · subst q; simp (disch := omega) only [w_ne, w_at, wl_ne, wl_at, wc_ne, wc_at, upd_at, upd_ne, upl_at, upl_ne, cpy_in0, zn_cl, zn_add, zn_mul, zn_sub, zn_pm, br_tt, br_ff, br_ltT, br_ltF, br_leT, br_leF, br_eqT, br_eqF, br_eqs, br_eqm, br_eqm', br_ltm, br_mlt, br_lem, br_mle, br_oiF, br_lgge, br_lgle, br_lggt, br_lglt, br_lgeq, br_zb, br_zb1, bV_s, bI_s, bL_s, zo_n, zo_s]; rfl
      · simp (disch := omega) only [w_ne, w_at, wl_ne, wl_at, wc_ne, wc_at, upd_at, upd_ne, upl_at, upl_ne, cpy_in0, zn_cl, zn_add, zn_mul, zn_sub, zn_pm, br_tt, br_ff, br_ltT, br_ltF, br_leT, br_leF, br_eqT, br_eqF, br_eqs, br_eqm, br_eqm', br_ltm, br_mlt, br_lem, br_mle, br_oiF, br_lgge, br_lgle, br_lggt, br_lglt, br_lgeq, br_zb, br_zb1, bV_s, bI_s, bL_s, zo_n, zo_s]; exact h3 j (by omega))
    refine ⟨f', m', ?_, by omega, b2, fun c hc => by rw [b3 c hc]; simp (disch := omega) only [w_ne, w_at, wl_ne, wl_at, wc_ne, wc_at, upd_at, upd_ne, upl_at, upl_ne, cpy_in0, zn_cl, zn_add, zn_mul, zn_sub, zn_pm, br_tt, br_ff, br_ltT, br_ltF, br_leT, br_leF, br_eqT, br_eqF, br_eqs, br_eqm, br_eqm', br_ltm, br_mlt, br_lem, br_mle, br_oiF, br_lgge, br_lgle, br_lggt, br_lglt, br_lgeq, br_zb, br_zb1, bV_s, bI_s, bL_s, zo_n, zo_s], b4⟩
    rw [e_M_laySwaps_2, nar_0, br_leF (by omega) (by omega), br_oiF (by omega) (by omega), zn_cl (by omega), zn_add, b1]
def mtR (n : Nat) (mt : List (Nat × Nat)) (m : am_M) : Prop :=
  (m.1 107 12 = zn n)
  ∧ (m.1 107 55 = zn mt.length)
  ∧ (∀ i, i < mt.length → m.1 138 i = zn (mt.getD i (0, 0)).1 ∧ m.1 139 i = zn (mt.getD i (0, 0)).2)
theorem mtR.n {n : Nat} {mt : List (Nat × Nat)} {m : am_M} (hZ : mtR n mt m) : m.1 107 12 = zn n := hZ.1
theorem mtR.l {n : Nat} {mt : List (Nat × Nat)} {m : am_M} (hZ : mtR n mt m) : m.1 107 55 = zn mt.length := hZ.2.1
theorem mtR.s {n : Nat} {mt : List (Nat × Nat)} {m : am_M} (hZ : mtR n mt m) : ∀ i, i < mt.length → m.1 138 i = zn (mt.getD i (0, 0)).1 ∧ m.1 139 i = zn (mt.getD i (0, 0)).2 := hZ.2.2
theorem mtR.to {n : Nat} {mt : List (Nat × Nat)} {m m' : am_M} (h : mtR n mt m) (f : frs m m') : mtR n mt m' :=
  ⟨by rw [f.2.2 12 (by omega) (by omega)]; exact h.n, by rw [f.2.2 55 (by omega) (by omega)]; exact h.l, by rw [f.2.1 138 (by omega) (by omega), f.2.1 139 (by omega) (by omega)]; exact h.s⟩
theorem d6B_of {c0 : Nat} {J : List Nat} {B : Bt} (h : d6 c0) (w : wB c0 J B) : d6B c0 B := fun i hi => d6_st h (w.x i hi)
theorem lq_f79 {c0 k d n X L : Nat} {x1 : Int32} {mt : List (Nat × Nat)} (hn5 : n ≤ 5) (hms : ∀ p, p ∈ mt → p.1 < p.2 ∧ p.2 < n) (hml : mt.length ≤ 10) (hc0 : d6 c0) (hX : X < 120) (r : Nat) :
    ∀ (b f : Nat) (B : Bt) (m : am_M), b + r = mt.length → r < f → mtR n mt m → bR c0 B m → k < B.length → bx B k = X → bl B k = L → wB c0 (Jm mt) B → cB c0 (Jm mt) B k → (∀ i, i < B.length → bl B i ≤ L + 1) →
    ∃ f' m', r_M_laySwaps_79 (d + 3) f x1 (zn k) (zn b) m = r_M_laySwaps_47 (d + 3) f' x1 (zn (k + 1)) (some (.int (zn mt.length))) m' ∧ f ≤ f' + r + 1 ∧ bR c0 (bE c0 X L k (Jm (mt.drop b)) b B) m' ∧ frs m m' ∧ m'.1 107 77 = m.1 107 77 := by
  have hJ := Jm_lt hn5 hms
  induction r with
  | zero =>
    intro b f B m h1 h2 s hC hkB hbx hbl w1 c1 hm
    obtain ⟨f, rfl⟩ : ∃ g, f = g + 1 := ⟨f - 1, by omega⟩
    refine ⟨f, m, ?_, by omega, ?_, frs_refl m, rfl⟩
    · rw [e_M_laySwaps_79, s.l, br_leT (by omega) (by omega), zn_add, show b = mt.length from by omega]
    · rw [List.drop_eq_nil_of_le (by omega)]; exact hC
  | succ r ih =>
    intro b f B m h1 h2 s hC hkB hbx hbl w1 c1 hm
    obtain ⟨f, rfl⟩ : ∃ g, f = g + 1 := ⟨f - 1, by omega⟩
    have hp := hms _ (getD_mem mt b (0, 0) (by omega))
    have jk := jo_ok (mt.getD b (0, 0)).1 (by omega) (mt.getD b (0, 0)).2 (by omega) hp.1
    have hlB := wB_len w1
    have sk : m.1 143 k = zn (e6 (st c0 X)) := by rw [hC.s k hkB, hbx]
    have hsw : am_c (d + 3) y_M_swapped [.int (zn (e6 (st c0 X))), .int (m.1 138 b), .int (m.1 139 b)] m = some (some (.int (zn (e6 (st c0 (nb X (jo (mt.getD b (0, 0)).1 (mt.getD b (0, 0)).2)))))), m) := by
      rw [st_nb hX jk.1, jk.2.1, jk.2.2, (s.s b (by omega)).1, (s.s b (by omega)).2, s_swapR (d6_st hc0 hX) (by omega) (by omega) hp.1]
    have hjm : jo (mt.getD b (0, 0)).1 (mt.getD b (0, 0)).2 ∈ Jm mt := List.mem_map.mpr ⟨_, getD_mem mt b (0, 0) (by omega), rfl⟩
    obtain ⟨a1, a2, a3, a4, a5, a6⟩ := bA_ok hJ w1 c1 hkB (by rw [hbl]; exact hm) hjm (b := b) (by rw [Jm_len]; omega)
    rw [hbx, hbl] at a1 a2 a3 a4 a5 a6
    obtain ⟨m1, r1, r2, r3, r77⟩ := s_meetsRow (d := d + 2) (k := k) (b := b) (x := nb X (jo (mt.getD b (0, 0)).1 (mt.getD b (0, 0)).2)) (lv := L + 1) hC (d6B_of hc0 w1) (d6_st hc0 (nb_ok X hX _ jk.1).1) hlB
    obtain ⟨f', m', i1, i0, i2, i3, i4⟩ := ih (b + 1) f _ m1 (by omega) (by omega) (s.to r3) (r2 w1.l) (by omega) ((congrArg (fun e => e.1) (a4 k hkB)).trans hbx) ((congrArg (fun e => e.2.2.2) (a4 k hkB)).trans hbl) a1 a2 a5
    refine ⟨f', m', ?_, by omega, ?_, frs_tr r3 i3, by rw [i4, r77]⟩
    · rw [e_M_laySwaps_79, s.l, br_leF (by omega) (by omega), br_oiF (by omega) (by omega), br_oiF (by omega) (by omega), br_oiF (by omega) (by omega), zn_cl (by omega), zn_cl (by omega), sk, hsw, bI_s, r1, bV_s, zn_add, i1]
    · rw [Jm_drop (by omega), bE]; exact i2
theorem tr_1 {d n k l : Nat} {x1 : Int32} {m : am_M} {F : Nat} (hk : k < 128) (hf : m.1 144 k = zn F) (hF : F < 128) (hl0 : 0 < l) (hl : l ≤ 10) : r_M_laySwaps_174 d (n + 1) x1 (zn l) (zn k) m = r_M_laySwaps_174 d n x1 (zn (l - 1)) (zn F) (am_w m.1 147 (l - 1) (m.1 145 k), m.2) := by
  rw [e_M_laySwaps_174, h_M_laySwaps_174, br_oiF (by omega) (by omega), zn_cl (by omega), hf, br_ltF (by omega) (by omega), zn_pm (by omega)]
  refine (g_M_laySwaps_186 d n 894 x1 (zn (l - 1)) (zn k) m).trans ?_
  rw [br_oiF (by omega) (by omega), br_oiF (by omega) (by omega), br_oiF (by omega) (by omega), zn_cl (by omega), zn_cl (by omega), hf]
theorem tr_0 {d n l : Nat} {x1 : Int32} {m : am_M} (hf : m.1 144 0 = zm) : r_M_laySwaps_174 d (n + 1) x1 (zn l) (zn 0) m = some (none, m) := by
  rw [e_M_laySwaps_174, h_M_laySwaps_174, br_oiF (by omega) (by omega), zn_cl (by omega), hf, br_lt, zm_i, zn_i (by omega), if_pos (by omega)]
theorem lq_174 {c0 d e : Nat} {J : List Nat} {B : Bt} (w : wB c0 J B) (n : Nat) : ∀ (k f : Nat) (m : am_M), k < B.length → bl B k = n → n < f → m.1 144 0 = zm → (∀ i, 0 < i → i < B.length → m.1 144 i = zn (bf B i) ∧ m.1 145 i = zn (bb B i)) →
    ∃ m', r_M_laySwaps_174 d f (zn e) (zn n) (zn k) m = some (none, m') ∧ m'.2 = m.2 ∧ (∀ c, c ≠ 147 → m'.1 c = m.1 c) ∧ (∀ i, i < n → m'.1 147 i = zn ((trc B n k).getD i 0)) ∧ ∀ i, n ≤ i → m'.1 147 i = m.1 147 i := by
  have hl := wB_len w
  induction n with
  | zero =>
    intro k f m hk hl0 hf h0 h
    obtain ⟨f, rfl⟩ : ∃ g, f = g + 1 := ⟨f - 1, by omega⟩
    rcases wB_up w hk with q | q
    · rw [q.1]
      exact ⟨m, tr_0 h0, rfl, fun _ _ => rfl, fun i hi => by omega, fun _ _ => rfl⟩
    · omega
  | succ n ih =>
    intro k f m hk hl0 hf h0 h
    obtain ⟨f, rfl⟩ : ∃ g, f = g + 1 := ⟨f - 1, by omega⟩
    have h10 := w.t k hk
    rcases wB_up w hk with q | ⟨q1, q2, q3, q4⟩
    · omega
    · have hf2 := h k q1 hk
      obtain ⟨m', b1, b2, b3, b4, b5⟩ := ih (bf B k) f (am_w m.1 147 n (zn (bb B k)), m.2) (by omega) (by omega) (by omega) (by simp (disch := omega) only [w_ne, w_at, wl_ne, wl_at, wc_ne, wc_at, upd_at, upd_ne, upl_at, upl_ne, cpy_in0, zn_cl, zn_add, zn_mul, zn_sub, zn_pm, br_tt, br_ff, br_ltT, br_ltF, br_leT, br_leF, br_eqT, br_eqF, br_eqs, br_eqm, br_eqm', br_ltm, br_mlt, br_lem, br_mle, br_oiF, br_lgge, br_lgle, br_lggt, br_lglt, br_lgeq, br_zb, br_zb1, bV_s, bI_s, bL_s, zo_n, zo_s]; exact h0) (fun i h0 hi => by simp (disch := omega) only [w_ne, w_at, wl_ne, wl_at, wc_ne, wc_at, upd_at, upd_ne, upl_at, upl_ne, cpy_in0, zn_cl, zn_add, zn_mul, zn_sub, zn_pm, br_tt, br_ff, br_ltT, br_ltF, br_leT, br_leF, br_eqT, br_eqF, br_eqs, br_eqm, br_eqm', br_ltm, br_mlt, br_lem, br_mle, br_oiF, br_lgge, br_lgle, br_lggt, br_lglt, br_lgeq, br_zb, br_zb1, bV_s, bI_s, bL_s, zo_n, zo_s]; exact h i h0 hi)
      refine ⟨m', ?_, b2, fun c hc => by rw [b3 c hc]; simp (disch := omega) only [w_ne, w_at, wl_ne, wl_at, wc_ne, wc_at, upd_at, upd_ne, upl_at, upl_ne, cpy_in0, zn_cl, zn_add, zn_mul, zn_sub, zn_pm, br_tt, br_ff, br_ltT, br_ltF, br_leT, br_leF, br_eqT, br_eqF, br_eqs, br_eqm, br_eqm', br_ltm, br_mlt, br_lem, br_mle, br_oiF, br_lgge, br_lgle, br_lggt, br_lglt, br_lgeq, br_zb, br_zb1, bV_s, bI_s, bL_s, zo_n, zo_s], fun i hi => ?_, fun i hi => ?_⟩
      · rw [tr_1 (by omega) hf2.1 (by omega) (by omega) (by omega), hf2.2, Nat.add_sub_cancel, b1]
      · rcases Nat.lt_or_ge i n with g | g
        · rw [trc_lo g]; exact b4 i g
        · have : i = n := by omega
          subst this
          rw [trc_at, b5 i (Nat.le_refl _)]; simp (disch := omega) only [w_ne, w_at, wl_ne, wl_at, wc_ne, wc_at, upd_at, upd_ne, upl_at, upl_ne, cpy_in0, zn_cl, zn_add, zn_mul, zn_sub, zn_pm, br_tt, br_ff, br_ltT, br_ltF, br_leT, br_leF, br_eqT, br_eqF, br_eqs, br_eqm, br_eqm', br_ltm, br_mlt, br_lem, br_mle, br_oiF, br_lgge, br_lgle, br_lggt, br_lglt, br_lgeq, br_zb, br_zb1, bV_s, bI_s, bL_s, zo_n, zo_s]
      · rw [b5 i (by omega)]; simp (disch := omega) only [w_ne, w_at, wl_ne, wl_at, wc_ne, wc_at, upd_at, upd_ne, upl_at, upl_ne, cpy_in0, zn_cl, zn_add, zn_mul, zn_sub, zn_pm, br_tt, br_ff, br_ltT, br_ltF, br_leT, br_leF, br_eqT, br_eqF, br_eqs, br_eqm, br_eqm', br_ltm, br_mlt, br_lem, br_mle, br_oiF, br_lgge, br_lgle, br_lggt, br_lglt, br_lgeq, br_zb, br_zb1, bV_s, bI_s, bL_s, zo_n, zo_s]
theorem lq_138 {c0 d e : Nat} {J : List Nat} {B : Bt} {x3 : Option Value} (w : wB c0 J B) (n : Nat) : ∀ (k f l : Nat) (m : am_M), k < B.length → bl B k = n → n < f → l + n ≤ 10 → m.1 107 77 = zn l → m.1 144 0 = zm → (∀ i, 0 < i → i < B.length → m.1 144 i = zn (bf B i) ∧ m.1 145 i = zn (bb B i)) →
    ∃ f' m', r_M_laySwaps_138 d f (zn e) (zn k) x3 m = r_M_laySwaps_174 d f' (zn e) (zn (l + n)) (zn e) m' ∧ f ≤ f' + n + 1 ∧ m'.2 = m.2 ∧ (∀ c, c ≠ 107 → m'.1 c = m.1 c) ∧ (∀ i, i ≠ 77 → m'.1 107 i = m.1 107 i) ∧ m'.1 107 77 = zn (l + n) := by
  have hl := wB_len w
  induction n with
  | zero =>
    intro k f l m hk hl0 hf h10 h77 h0 h
    obtain ⟨f, rfl⟩ : ∃ g, f = g + 1 := ⟨f - 1, by omega⟩
    rcases wB_up w hk with q | q
    · refine ⟨f, m, ?_, by omega, rfl, fun _ _ => rfl, fun _ _ => rfl, h77⟩
      rw [q.1, e_M_laySwaps_138, br_oiF (by omega) (by omega), zn_cl (by omega), h0, br_lt, zm_i, zn_i (by omega), if_pos (by omega), h77]; rfl
    · omega
  | succ n ih =>
    intro k f l m hk hl0 hf h10 h77 h0 h
    obtain ⟨f, rfl⟩ : ∃ g, f = g + 1 := ⟨f - 1, by omega⟩
    rcases wB_up w hk with q | ⟨q1, q2, q3, q4⟩
    · omega
    · have hf2 := h k q1 hk
      obtain ⟨f', m', b1, b0, b2, b3, b4, b5⟩ := ih (bf B k) f (l + 1) (am_w m.1 107 77 (zn (l + 1)), m.2) (by omega) (by omega) (by omega) (by omega) (by simp (disch := omega) only [w_ne, w_at, wl_ne, wl_at, wc_ne, wc_at, upd_at, upd_ne, upl_at, upl_ne, cpy_in0, zn_cl, zn_add, zn_mul, zn_sub, zn_pm, br_tt, br_ff, br_ltT, br_ltF, br_leT, br_leF, br_eqT, br_eqF, br_eqs, br_eqm, br_eqm', br_ltm, br_mlt, br_lem, br_mle, br_oiF, br_lgge, br_lgle, br_lggt, br_lglt, br_lgeq, br_zb, br_zb1, bV_s, bI_s, bL_s, zo_n, zo_s]) (by simp (disch := omega) only [w_ne, w_at, wl_ne, wl_at, wc_ne, wc_at, upd_at, upd_ne, upl_at, upl_ne, cpy_in0, zn_cl, zn_add, zn_mul, zn_sub, zn_pm, br_tt, br_ff, br_ltT, br_ltF, br_leT, br_leF, br_eqT, br_eqF, br_eqs, br_eqm, br_eqm', br_ltm, br_mlt, br_lem, br_mle, br_oiF, br_lgge, br_lgle, br_lggt, br_lglt, br_lgeq, br_zb, br_zb1, bV_s, bI_s, bL_s, zo_n, zo_s]; exact h0) (fun i h0 hi => by simp (disch := omega) only [w_ne, w_at, wl_ne, wl_at, wc_ne, wc_at, upd_at, upd_ne, upl_at, upl_ne, cpy_in0, zn_cl, zn_add, zn_mul, zn_sub, zn_pm, br_tt, br_ff, br_ltT, br_ltF, br_leT, br_leF, br_eqT, br_eqF, br_eqs, br_eqm, br_eqm', br_ltm, br_mlt, br_lem, br_mle, br_oiF, br_lgge, br_lgle, br_lggt, br_lglt, br_lgeq, br_zb, br_zb1, bV_s, bI_s, bL_s, zo_n, zo_s]; exact h i h0 hi)
      refine ⟨f', m', ?_, by omega, b2, fun c hc => by rw [b3 c hc]; simp (disch := omega) only [w_ne, w_at, wl_ne, wl_at, wc_ne, wc_at, upd_at, upd_ne, upl_at, upl_ne, cpy_in0, zn_cl, zn_add, zn_mul, zn_sub, zn_pm, br_tt, br_ff, br_ltT, br_ltF, br_leT, br_leF, br_eqT, br_eqF, br_eqs, br_eqm, br_eqm', br_ltm, br_mlt, br_lem, br_mle, br_oiF, br_lgge, br_lgle, br_lggt, br_lglt, br_lgeq, br_zb, br_zb1, bV_s, bI_s, bL_s, zo_n, zo_s], fun i hi => by rw [b4 i hi]; simp (disch := omega) only [w_ne, w_at, wl_ne, wl_at, wc_ne, wc_at, upd_at, upd_ne, upl_at, upl_ne, cpy_in0, zn_cl, zn_add, zn_mul, zn_sub, zn_pm, br_tt, br_ff, br_ltT, br_ltF, br_leT, br_leF, br_eqT, br_eqF, br_eqs, br_eqm, br_eqm', br_ltm, br_mlt, br_lem, br_mle, br_oiF, br_lgge, br_lgle, br_lggt, br_lglt, br_lgeq, br_zb, br_zb1, bV_s, bI_s, bL_s, zo_n, zo_s], by rw [b5]; congr 1; omega⟩
      rw [e_M_laySwaps_138, br_oiF (by omega) (by omega), br_oiF (by omega) (by omega), zn_cl (by omega), hf2.1, br_ltF (by omega) (by omega), h77, zn_add, b1, show l + 1 + n = l + (n + 1) from by omega]
theorem lq_47 {d n : Nat} {h : Hs} {w : List Nat} {mt : List (Nat × Nat)} (hn5 : n ≤ 5) (I : hwI n h w) (hms : ∀ p, p ∈ mt → p.1 < p.2 ∧ p.2 < n) (hml : mt.length ≤ 10) (R : Nat) :
    ∀ (k f : Nat) (B : Bt) (x3 : Option Value) (m : am_M), 121 ≤ k + R → k ≤ 120 → 20 * R + 20 < f → mtR n mt m → m.1 107 77 = zq → bR (cod (hv n h)) B m → wB (cod (hv n h)) (Jm mt) B → cB (cod (hv n h)) (Jm mt) B k → (k < B.length → ∀ i, i < B.length → bl B i ≤ bl B k + 1) →
    ∃ m', r_M_laySwaps_47 (d + 3) f zm (zn k) x3 m = some (none, m') ∧ frs m m' ∧ m'.1 107 77 = zr (bF (cod (hv n h)) (Jm mt) (gl n w) R k B) ∧ ∀ k' B', bF (cod (hv n h)) (Jm mt) (gl n w) R k B = some (k', B') → ∀ i, i < bl B' k' → m'.1 147 i = zn ((trc B' (bl B' k') k').getD i 0) := by
  have hJ := Jm_lt hn5 hms
  have hc0 : d6 (cod (hv n h)) := fun t ht => by rw [dg_cod (fun t _ => by have := hv_lt hn5 I t; omega) ht]; exact hv_lt hn5 I t
  induction R with
  | zero => intro k f B x3 m h1 h2; omega
  | succ R ih =>
    intro k f B x3 m h1 h2 h3 s h77 hC w1 c1 hm
    obtain ⟨f, rfl⟩ : ∃ g, f = g + 1 := ⟨f - 1, by omega⟩
    have hlB := wB_len w1
    rw [e_M_laySwaps_47, hC.n, bF]
    by_cases e1 : B.length ≤ k
    · rw [br_leT e1 (by omega), if_pos e1, br_le, zm_i, zn_i (by omega), if_neg (by omega)]
      exact ⟨m, rfl, frs_refl m, h77, fun k' B' e => by cases e⟩
    · have hkB : k < B.length := by omega
      have d6k := d6B_of hc0 w1 k hkB
      have hh := lp_home (d := d) (m := m) hn5 d6k s.n n 0 29999 none (by omega) (by omega)
      obtain ⟨u, u1, u2, u3⟩ := w1.w k hkB
      obtain ⟨h', I', e'⟩ := arr hn5 I hms u u2
      rw [u3] at e'
      have hiff := home_iff hn5 I'
      rw [← e'] at hiff
      rw [br_leF (by omega) (by omega), br_le, zm_i, zn_i (by omega), if_neg (by omega), br_oiF (by omega) (by omega), zn_cl (by omega), hC.s k hkB, n_M_isHome, hh, bI_s, br_zb, if_neg e1]
      by_cases e2 : st (cod (hv n h)) (bx B k) = gl n w
      · rw [hiff.mpr e2, if_pos rfl, if_pos e2, zn_add]
        obtain ⟨f, rfl⟩ : ∃ g, f = g + 1 := ⟨f - 1, by omega⟩
        have h10 := w1.t k hkB
        obtain ⟨f', m1, a1, a0, a2, a3, a4, a5⟩ := lq_138 (d := d + 3) (e := k) (x3 := x3) w1 (bl B k) k f 0 (am_w m.1 107 77 (zn 0), m.2) hkB rfl (by omega) (by omega) (by simp (disch := omega) only [w_ne, w_at, wl_ne, wl_at, wc_ne, wc_at, upd_at, upd_ne, upl_at, upl_ne, cpy_in0, zn_cl, zn_add, zn_mul, zn_sub, zn_pm, br_tt, br_ff, br_ltT, br_ltF, br_leT, br_leF, br_eqT, br_eqF, br_eqs, br_eqm, br_eqm', br_ltm, br_mlt, br_lem, br_mle, br_oiF, br_lgge, br_lgle, br_lggt, br_lglt, br_lgeq, br_zb, br_zb1, bV_s, bI_s, bL_s, zo_n, zo_s]) (by simp (disch := omega) only [w_ne, w_at, wl_ne, wl_at, wc_ne, wc_at, upd_at, upd_ne, upl_at, upl_ne, cpy_in0, zn_cl, zn_add, zn_mul, zn_sub, zn_pm, br_tt, br_ff, br_ltT, br_ltF, br_leT, br_leF, br_eqT, br_eqF, br_eqs, br_eqm, br_eqm', br_ltm, br_mlt, br_lem, br_mle, br_oiF, br_lgge, br_lgle, br_lggt, br_lglt, br_lgeq, br_zb, br_zb1, bV_s, bI_s, bL_s, zo_n, zo_s]; exact hC.r) (fun i h0 hi => by simp (disch := omega) only [w_ne, w_at, wl_ne, wl_at, wc_ne, wc_at, upd_at, upd_ne, upl_at, upl_ne, cpy_in0, zn_cl, zn_add, zn_mul, zn_sub, zn_pm, br_tt, br_ff, br_ltT, br_ltF, br_leT, br_leF, br_eqT, br_eqF, br_eqs, br_eqm, br_eqm', br_ltm, br_mlt, br_lem, br_mle, br_oiF, br_lgge, br_lgle, br_lggt, br_lglt, br_lgeq, br_zb, br_zb1, bV_s, bI_s, bL_s, zo_n, zo_s]; exact hC.f i h0 hi)
        rw [Nat.zero_add] at a1 a5
        have e14 : ∀ c, c ≠ 107 → m1.1 c = m.1 c := fun c hc => by rw [a3 c hc]; simp (disch := omega) only [w_ne, w_at, wl_ne, wl_at, wc_ne, wc_at, upd_at, upd_ne, upl_at, upl_ne, cpy_in0, zn_cl, zn_add, zn_mul, zn_sub, zn_pm, br_tt, br_ff, br_ltT, br_ltF, br_leT, br_leF, br_eqT, br_eqF, br_eqs, br_eqm, br_eqm', br_ltm, br_mlt, br_lem, br_mle, br_oiF, br_lgge, br_lgle, br_lggt, br_lglt, br_lgeq, br_zb, br_zb1, bV_s, bI_s, bL_s, zo_n, zo_s]
        obtain ⟨m2, b1, b2, b3, b4, b5⟩ := lq_174 (d := d + 3) (e := k) w1 (bl B k) k f' m1 hkB rfl (by omega) (by rw [e14 144 (by omega)]; exact hC.r) (fun i h0 hi => by rw [e14 144 (by omega), e14 145 (by omega)]; exact hC.f i h0 hi)
        have run : r_M_laySwaps_47 (d + 3) (f + 1) (zn k) (zn (k + 1)) x3 m = some (none, m2) := by
          rw [e_M_laySwaps_47, hC.n, br_leT (a := 0) (b := k) (by omega) (by omega), br_leT (a := 0) (b := k) (by omega) (by omega), a1, b1]
          by_cases g : B.length ≤ k + 1
          · rw [br_leT g (by omega)]
          · rw [br_leF (by omega) (by omega)]
        refine ⟨m2, run, ⟨by rw [b2, a2], fun c c1 c2 => by rw [b3 c (by omega), e14 c c1], fun i i1 i2 => by rw [b3 107 (by omega), a4 i i2]; simp (disch := omega) only [w_ne, w_at, wl_ne, wl_at, wc_ne, wc_at, upd_at, upd_ne, upl_at, upl_ne, cpy_in0, zn_cl, zn_add, zn_mul, zn_sub, zn_pm, br_tt, br_ff, br_ltT, br_ltF, br_leT, br_leF, br_eqT, br_eqF, br_eqs, br_eqm, br_eqm', br_ltm, br_mlt, br_lem, br_mle, br_oiF, br_lgge, br_lgle, br_lggt, br_lglt, br_lgeq, br_zb, br_zb1, bV_s, bI_s, bL_s, zo_n, zo_s]⟩, by rw [b3 107 (by omega), a5]; rfl, fun k' B' e => by cases e; exact b4⟩
      · have hne : hmB (st (cod (hv n h)) (bx B k)) n 0 = false := by
          cases q : hmB (st (cod (hv n h)) (bx B k)) n 0 with
          | false => rfl
          | true => exact absurd (hiff.mp q) e2
        have hm' := hm hkB
        obtain ⟨f', m1, a1, a0, a2, a3, a4⟩ := lq_f79 (d := d) (x1 := zm) (k := k) hn5 hms hml hc0 (w1.x k hkB) mt.length 0 f B m (by omega) (by omega) s hC hkB rfl rfl w1 c1 hm'
        rw [List.drop_zero] at a2
        obtain ⟨b1, b2, b3⟩ := bE_step hJ w1 c1 hkB hm'
        rw [hne, if_neg (by simp), a1, if_neg e2]
        obtain ⟨m', i1, i2, i3, i4⟩ := ih (k + 1) f' _ (some (.int (zn mt.length))) m1 (by omega) (by omega) (by omega) (s.to a3) (by rw [a4]; exact h77) a2 b1 b2 (fun h i hi => b3 i hi h)
        exact ⟨m', i1, frs_tr a3 i2, i3, i4⟩
theorem s_findR {T G F : Td} {q : Sq} {w : List Nat} {day num d : Nat} {m : am_M} (c : Core T G F q w day num m) :
    ∃ m', am_c (d + 4) y_M_laySwaps [.ref 107] m = some (none, m') ∧ fqR m m' ∧ m'.1 107 77 = zr (bF (cod (hv (T 0 0) q.2.2.2)) (Jm q.2.2.1) (gl (T 0 0) w) 121 0 B0) ∧ ∀ k' B', bF (cod (hv (T 0 0) q.2.2.2)) (Jm q.2.2.1) (gl (T 0 0) w) 121 0 B0 = some (k', B') → ∀ i, i < bl B' k' → m'.1 147 i = zn ((trc B' (bl B' k') k').getD i 0) := by
  have hn5 := c.tw.n
  have I := c.qw.hw
  obtain ⟨f1, m1, a1, a0, a2, a3, a4⟩ := lq_l2 (d := d + 3) 7776 0 29999 m (by omega) (by omega) (fun c hc => by omega)
  let c0 := cod (hv (T 0 0) q.2.2.2)
  have hlt0 : c0 < 32768 := cod_lt (fun t _ => by have := hv_lt hn5 I t; omega)
  have hc0 : d6 c0 := fun t ht => by
    show dg (cod (hv (T 0 0) q.2.2.2)) t < 6
    rw [dg_cod (fun t _ => by have := hv_lt hn5 I t; omega) ht]; exact hv_lt hn5 I t
  have he := e6_lt hc0
  let m2 : am_M := (am_w (am_w m1.1 107 75 (zn 0)) 107 77 zq, m1.2)
  have e2 : ∀ p, p ≠ 107 → m2.1 p = m1.1 p := fun p hp => by show (am_w (am_w m1.1 107 75 (zn 0)) 107 77 zq) p = _; simp (disch := omega) only [w_ne, w_at, wl_ne, wl_at, wc_ne, wc_at, upd_at, upd_ne, upl_at, upl_ne, cpy_in0, zn_cl, zn_add, zn_mul, zn_sub, zn_pm, br_tt, br_ff, br_ltT, br_ltF, br_leT, br_leF, br_eqT, br_eqF, br_eqs, br_eqm, br_eqm', br_ltm, br_mlt, br_lem, br_mle, br_oiF, br_lgge, br_lgle, br_lggt, br_lglt, br_lgeq, br_zb, br_zb1, bV_s, bI_s, bL_s, zo_n, zo_s]
  have g2 := s_row (d := d + 2) (m := m2) hn5 I (by rw [e2 132 (by omega), a3 132 (by omega)]; exact c.nr.hs) (by rw [e2 132 (by omega), a3 132 (by omega)]; exact c.nr.h5)
  let m3 : am_M := (am_w (am_w (am_w (am_w (am_w m2.1 146 (e6 c0) (zn 1)) 143 0 (zn (e6 c0))) 144 0 zm) 145 0 zm) 107 75 (zn 1), m2.2)
  have hmr : am_c (d + 3) y_M_meetsRow [.ref 107, .int (zn (e6 c0)), .int zm, .int zm] m2 = some (none, m3) := by
    have h75 : m2.1 107 75 = zn 0 := by show (am_w (am_w m1.1 107 75 (zn 0)) 107 77 zq) 107 75 = _; simp (disch := omega) only [w_ne, w_at, wl_ne, wl_at, wc_ne, wc_at, upd_at, upd_ne, upl_at, upl_ne, cpy_in0, zn_cl, zn_add, zn_mul, zn_sub, zn_pm, br_tt, br_ff, br_ltT, br_ltF, br_leT, br_leF, br_eqT, br_eqF, br_eqs, br_eqm, br_eqm', br_ltm, br_mlt, br_lem, br_mle, br_oiF, br_lgge, br_lgle, br_lggt, br_lglt, br_lgeq, br_zb, br_zb1, bV_s, bI_s, bL_s, zo_n, zo_s]
    have h146 : m2.1 146 (e6 c0) = zb false := by rw [e2 146 (by omega)]; exact a4 _ he
    rw [n_M_meetsRow, br_oiF (by omega) (by omega), br_oiF (by omega) (by omega), zn_cl (by omega), h146, h75, br_zb, if_neg (by simp), br_oiF (by omega) (by omega), br_oiF (by omega) (by omega), br_oiF (by omega) (by omega), zn_cl (by omega), zn_add, nar_1]
  have e3 : ∀ p, p ≠ 107 → p < 143 ∨ 146 < p → m3.1 p = m.1 p := fun p p1 p2 => by
    show (am_w (am_w (am_w (am_w (am_w m2.1 146 (e6 c0) (zn 1)) 143 0 (zn (e6 c0))) 144 0 zm) 145 0 zm) 107 75 (zn 1)) p = _
    simp (disch := omega) only [w_ne, w_at, wl_ne, wl_at, wc_ne, wc_at, upd_at, upd_ne, upl_at, upl_ne, cpy_in0, zn_cl, zn_add, zn_mul, zn_sub, zn_pm, br_tt, br_ff, br_ltT, br_ltF, br_leT, br_leF, br_eqT, br_eqF, br_eqs, br_eqm, br_eqm', br_ltm, br_mlt, br_lem, br_mle, br_oiF, br_lgge, br_lgle, br_lggt, br_lglt, br_lgeq, br_zb, br_zb1, bV_s, bI_s, bL_s, zo_n, zo_s]; rw [e2 p p1, a3 p (by omega)]
  have e37 : ∀ i, i ≠ 75 → i ≠ 77 → m3.1 107 i = m.1 107 i := fun i i1 i2 => by
    show (am_w (am_w (am_w (am_w (am_w (am_w (am_w m1.1 107 75 (zn 0)) 107 77 zq) 146 (e6 c0) (zn 1)) 143 0 (zn (e6 c0))) 144 0 zm) 145 0 zm) 107 75 (zn 1)) 107 i = _
    simp (disch := omega) only [w_ne, w_at, wl_ne, wl_at, wc_ne, wc_at, upd_at, upd_ne, upl_at, upl_ne, cpy_in0, zn_cl, zn_add, zn_mul, zn_sub, zn_pm, br_tt, br_ff, br_ltT, br_ltF, br_leT, br_leF, br_eqT, br_eqF, br_eqs, br_eqm, br_eqm', br_ltm, br_mlt, br_lem, br_mle, br_oiF, br_lgge, br_lgle, br_lggt, br_lglt, br_lgeq, br_zb, br_zb1, bV_s, bI_s, bL_s, zo_n, zo_s]; rw [a3 107 (by omega)]
  have f3 : frs m m3 := ⟨a2, fun p p1 p2 => e3 p p1 (by omega), e37⟩
  have hC : bR c0 B0 m3 := by
    have len : B0.length = 1 := rfl
    refine ⟨?_, fun i hi => ?_, ?_, fun i h0 hi => ?_, fun k hk => ?_⟩
    · show (am_w (am_w (am_w (am_w (am_w m2.1 146 (e6 c0) (zn 1)) 143 0 (zn (e6 c0))) 144 0 zm) 145 0 zm) 107 75 (zn 1)) 107 75 = _; simp (disch := omega) only [w_ne, w_at, wl_ne, wl_at, wc_ne, wc_at, upd_at, upd_ne, upl_at, upl_ne, cpy_in0, zn_cl, zn_add, zn_mul, zn_sub, zn_pm, br_tt, br_ff, br_ltT, br_ltF, br_leT, br_leF, br_eqT, br_eqF, br_eqs, br_eqm, br_eqm', br_ltm, br_mlt, br_lem, br_mle, br_oiF, br_lgge, br_lgle, br_lggt, br_lglt, br_lgeq, br_zb, br_zb1, bV_s, bI_s, bL_s, zo_n, zo_s]; rfl
    · rw [len] at hi
      have : i = 0 := by omega
      subst this
      show (am_w (am_w (am_w (am_w (am_w m2.1 146 (e6 c0) (zn 1)) 143 0 (zn (e6 c0))) 144 0 zm) 145 0 zm) 107 75 (zn 1)) 143 0 = zn (e6 (st c0 0))
      rw [st_0 hlt0]; simp (disch := omega) only [w_ne, w_at, wl_ne, wl_at, wc_ne, wc_at, upd_at, upd_ne, upl_at, upl_ne, cpy_in0, zn_cl, zn_add, zn_mul, zn_sub, zn_pm, br_tt, br_ff, br_ltT, br_ltF, br_leT, br_leF, br_eqT, br_eqF, br_eqs, br_eqm, br_eqm', br_ltm, br_mlt, br_lem, br_mle, br_oiF, br_lgge, br_lgle, br_lggt, br_lglt, br_lgeq, br_zb, br_zb1, bV_s, bI_s, bL_s, zo_n, zo_s]
    · show (am_w (am_w (am_w (am_w (am_w m2.1 146 (e6 c0) (zn 1)) 143 0 (zn (e6 c0))) 144 0 zm) 145 0 zm) 107 75 (zn 1)) 144 0 = zm; simp (disch := omega) only [w_ne, w_at, wl_ne, wl_at, wc_ne, wc_at, upd_at, upd_ne, upl_at, upl_ne, cpy_in0, zn_cl, zn_add, zn_mul, zn_sub, zn_pm, br_tt, br_ff, br_ltT, br_ltF, br_leT, br_leF, br_eqT, br_eqF, br_eqs, br_eqm, br_eqm', br_ltm, br_mlt, br_lem, br_mle, br_oiF, br_lgge, br_lgle, br_lggt, br_lglt, br_lgeq, br_zb, br_zb1, bV_s, bI_s, bL_s, zo_n, zo_s]
    · rw [len] at hi; omega
    · show (am_w (am_w (am_w (am_w (am_w m2.1 146 (e6 c0) (zn 1)) 143 0 (zn (e6 c0))) 144 0 zm) 145 0 zm) 107 75 (zn 1)) 146 k = zb (mrw c0 B0 k)
      have em : mrw c0 B0 k = Nat.beq (e6 c0) k := by
        show ([(0, 0, 0, 0)] : Bt).any (fun e => Nat.beq (e6 (st c0 e.1)) k) = _
        simp [st_0 hlt0]
      rw [em]
      by_cases g : k = e6 c0
      · subst g; rw [Nat.beq_refl]; simp (disch := omega) only [w_ne, w_at, wl_ne, wl_at, wc_ne, wc_at, upd_at, upd_ne, upl_at, upl_ne, cpy_in0, zn_cl, zn_add, zn_mul, zn_sub, zn_pm, br_tt, br_ff, br_ltT, br_ltF, br_leT, br_leF, br_eqT, br_eqF, br_eqs, br_eqm, br_eqm', br_ltm, br_mlt, br_lem, br_mle, br_oiF, br_lgge, br_lgle, br_lggt, br_lglt, br_lgeq, br_zb, br_zb1, bV_s, bI_s, bL_s, zo_n, zo_s]; rfl
      · have g2 : Nat.beq (e6 c0) k = false := by
          cases q : Nat.beq (e6 c0) k with
          | false => rfl
          | true => exact absurd (Nat.eq_of_beq_eq_true q).symm g
        rw [g2]; simp (disch := omega) only [w_ne, w_at, wl_ne, wl_at, wc_ne, wc_at, upd_at, upd_ne, upl_at, upl_ne, cpy_in0, zn_cl, zn_add, zn_mul, zn_sub, zn_pm, br_tt, br_ff, br_ltT, br_ltF, br_leT, br_leF, br_eqT, br_eqF, br_eqs, br_eqm, br_eqm', br_ltm, br_mlt, br_lem, br_mle, br_oiF, br_lgge, br_lgle, br_lggt, br_lglt, br_lgeq, br_zb, br_zb1, bV_s, bI_s, bL_s, zo_n, zo_s]; rw [e2 146 (by omega)]; exact a4 k hk
  have h77 : m3.1 107 77 = zq := by
    show (am_w (am_w (am_w (am_w (am_w (am_w (am_w m1.1 107 75 (zn 0)) 107 77 zq) 146 (e6 c0) (zn 1)) 143 0 (zn (e6 c0))) 144 0 zm) 145 0 zm) 107 75 (zn 1)) 107 77 = zq; simp (disch := omega) only [w_ne, w_at, wl_ne, wl_at, wc_ne, wc_at, upd_at, upd_ne, upl_at, upl_ne, cpy_in0, zn_cl, zn_add, zn_mul, zn_sub, zn_pm, br_tt, br_ff, br_ltT, br_ltF, br_leT, br_leF, br_eqT, br_eqF, br_eqs, br_eqm, br_eqm', br_ltm, br_mlt, br_lem, br_mle, br_oiF, br_lgge, br_lgle, br_lggt, br_lglt, br_lgeq, br_zb, br_zb1, bV_s, bI_s, bL_s, zo_n, zo_s]
  have mtr : mtR (T 0 0) q.2.2.1 m := ⟨c.tr.n, c.nr.ml, c.nr.ms⟩
  obtain ⟨m4, b1, b2, b3, b4⟩ := lq_47 (d := d) hn5 I c.qw.ms c.qw.ml 121 0 f1 B0 none m3 (by omega) (by omega) (by omega) (mtr.to f3) h77 hC wB_0 (fun i hi => by omega) (fun _ i hi => by
    have : i = 0 := by have : B0.length = 1 := rfl; omega
    subst this; omega)
  refine ⟨m4, ?_, (frs_tr f3 b2).q, b3, b4⟩
  have g2' : am_c (d + 3) y_M_rowNow [.ref 107] (am_w (am_w m1.1 107 75 (zn 0)) 107 77 zq, m1.2) = some (some (.int (zn (e6 c0))), (am_w (am_w m1.1 107 75 (zn 0)) 107 77 zq, m1.2)) := g2
  have hmr' : am_c (d + 3) y_M_meetsRow [.ref 107, .int (zn (e6 c0)), .int zm, .int zm] (am_w (am_w m1.1 107 75 (zn 0)) 107 77 zq, m1.2) = some (none, m3) := hmr
  rw [n_M_laySwaps, a1, e_M_laySwaps_2, br_leT (by omega) (by omega), g2', bI_s, hmr', bV_s, b1]
theorem k_swaps : ask y_C_swaps y_M_swaps [] := by
  refine ask_of fun T G F q w day num m c r => ?_
  obtain ⟨m1, a1, a2, a3⟩ := s_findC (d := 5) c
  refine ⟨_, m1, by rw [n_C_swaps, a1, bI_s], a2, fun c1 r1 => ?_⟩
  have c2 := c1.qR (fqR_th m1 (zn 0))
  obtain ⟨m2, b1, b2, b3, b4⟩ := s_findR (d := 3) c2
  exact ⟨m2, by rw [n_M_swaps, b1, bV_s, b3], fqR_tr (fqR_th m1 (zn 0)) b2⟩
theorem zn_min {a b : Nat} (ha : a < 2147483648) (hb : b < 2147483648) : am_imin (zn a) (zn b) = zn (min a b) := by
  unfold am_imin
  by_cases h : b < a
  · rw [if_pos (by rw [Int32.lt_iff_toInt_lt, zn_i ha, zn_i hb]; omega), Nat.min_eq_right (by omega)]
  · rw [if_neg (by rw [Int32.lt_iff_toInt_lt, zn_i ha, zn_i hb]; omega), Nat.min_eq_left (by omega)]
theorem k_swap (x : Int32) : ask y_C_swap y_M_swap [.int x] := by
  refine ask_of fun T G F q w day num m c r => ?_
  have hn5 := c.tw.n
  rcases i32_cases x with ⟨k, hk, rfl⟩ | hx
  · obtain ⟨m1, a1, a2, a3⟩ := s_findC (d := 5) c
    have c1' := c.qC a2
    have e2 : zq.toInt = -2 := by decide +kernel
    cases hb : bF (cod (hv (T 0 0) q.2.2.2)) (Jm q.2.2.1) (gl (T 0 0) w) 121 0 B0 with
    | none =>
      rw [hb] at a1
      refine ⟨some (.int zq), m1, ?_, a2, fun c1 r1 => ?_⟩
      · rw [n_C_swap, br_leT (by omega) (by omega), a1, bI_s, zr, br_lt, e2, zn_i hk, if_neg (by omega)]
      · have c2 := c1.qR (fqR_th m1 (zn 0))
        obtain ⟨m2, b1, b2, b3, b4⟩ := s_findR (d := 3) c2
        rw [hb] at b3
        refine ⟨m2, ?_, fqR_tr (fqR_th m1 (zn 0)) b2⟩
        rw [n_M_swap, br_leT (by omega) (by omega), b1, bV_s, b3, zr, br_lt, e2, zn_i hk, if_neg (by omega)]
    | some kB =>
      obtain ⟨k', B'⟩ := kB
      obtain ⟨h1, h2, h3⟩ := a3 k' B' hb
      have h10 := h2.t k' h1
      rw [hb] at a1
      have hJl : (Jm q.2.2.1).length = q.2.2.1.length := Jm_len
      refine ⟨some (.int (if k < bl B' k' then zn (10 * (q.2.2.1.getD ((trc B' (bl B' k') k').getD k 0) (0, 0)).1 + (q.2.2.1.getD ((trc B' (bl B' k') k').getD k 0) (0, 0)).2) else zq)), m1, ?_, a2, fun c1 r1 => ?_⟩
      · rw [n_C_swap, br_leT (by omega) (by omega), a1, bI_s, zr]
        by_cases g : k < bl B' k'
        · have hin := trc_in h2 (bl B' k') k' h1 rfl k g
          have hml := c.qw.ml
          have hp := c.qw.ms _ (getD_mem q.2.2.1 ((trc B' (bl B' k') k').getD k 0) (0, 0) (by omega))
          rw [br_ltT g (by omega), if_pos g, n_Swapper_pairOf (Or.inr (Or.inr (Or.inl rfl))), br_ltF (by omega) (by omega), br_leF (by omega) (by omega), br_oiF (by omega) (by omega), br_oiF (by omega) (by omega), br_oiF (by omega) (by omega), zn_cl (by omega), h3 k g, c1'.sc.ml, br_ltT (by omega) (by omega), br_oiF (by omega) (by omega), br_oiF (by omega) (by omega), zn_cl (by omega)]
          rcases c1'.sc.ms _ (show (trc B' (bl B' k') k').getD k 0 < q.2.2.1.length by omega) with ⟨e1, e2⟩ | ⟨e1, e2⟩
          · rw [e1, e2, zn_min (by omega) (by omega), zn_max (by omega) (by omega), zn_mul, zn_add, bI_s, Nat.min_eq_left (by omega), Nat.max_eq_right (by omega)]
          · rw [e1, e2, zn_min (by omega) (by omega), zn_max (by omega) (by omega), zn_mul, zn_add, bI_s, Nat.min_eq_right (by omega), Nat.max_eq_left (by omega)]
        · rw [br_ltF (by omega) (by omega), if_neg g]
      · have c2 := c1.qR (fqR_th m1 (zn 0))
        obtain ⟨m2, b1, b2, b3, b4⟩ := s_findR (d := 3) c2
        have b5 := b4 k' B' hb
        rw [hb] at b3
        have c3 := c2.qR b2
        refine ⟨m2, ?_, fqR_tr (fqR_th m1 (zn 0)) b2⟩
        rw [n_M_swap, br_leT (by omega) (by omega), b1, bV_s, b3, zr]
        by_cases g : k < bl B' k'
        · have hin := trc_in h2 (bl B' k') k' h1 rfl k g
          have hml := c.qw.ml
          have hp := c.qw.ms _ (getD_mem q.2.2.1 ((trc B' (bl B' k') k').getD k 0) (0, 0) (by omega))
          have hs := c3.nr.ms _ (show (trc B' (bl B' k') k').getD k 0 < q.2.2.1.length by omega)
          rw [br_ltT g (by omega), if_pos g, br_oiF (by omega) (by omega), br_oiF (by omega) (by omega), zn_cl (by omega), b5 k g, br_oiF (by omega) (by omega), br_oiF (by omega) (by omega), zn_cl (by omega), hs.1, hs.2, zn_mul, zn_add]
        · rw [br_ltF (by omega) (by omega), if_neg g]
  · refine ⟨some (.int zm), m, ?_, fqC_refl m, fun c1 r1 => ⟨_, ?_, fqR_th m (zn 0)⟩⟩
    · rw [n_C_swap, br_le, zn_i (by omega), if_neg (by omega)]
    · rw [n_M_swap, br_le, zn_i (by omega), if_neg (by omega)]
