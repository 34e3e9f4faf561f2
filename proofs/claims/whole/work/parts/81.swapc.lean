/-! the class's swaps -/
def bC (c0 : Nat) (B : Bt) (m : am_M) : Prop :=
  (m.1 92 4 = zn B.length)
  ∧ (∀ i, i < B.length → m.1 93 i = zn (st c0 (bx B i)))
  ∧ (∀ i, 0 < i → i < B.length → m.1 94 i = zn (bf B i) ∧ m.1 95 i = zn (bb B i))
theorem bC.n {c0 : Nat} {B : Bt} {m : am_M} (hZ : bC c0 B m) : m.1 92 4 = zn B.length := hZ.1
theorem bC.s {c0 : Nat} {B : Bt} {m : am_M} (hZ : bC c0 B m) : ∀ i, i < B.length → m.1 93 i = zn (st c0 (bx B i)) := hZ.2.1
theorem bC.f {c0 : Nat} {B : Bt} {m : am_M} (hZ : bC c0 B m) : ∀ i, 0 < i → i < B.length → m.1 94 i = zn (bf B i) ∧ m.1 95 i = zn (bb B i) := hZ.2.2
def fsq (m m' : am_M) : Prop := m'.2 = m.2 ∧ ∀ c, c < 92 ∨ 96 < c → m'.1 c = m.1 c
theorem fsq_refl (m : am_M) : fsq m m := ⟨rfl, fun _ _ => rfl⟩
theorem fsq_tr {m m1 m2 : am_M} (h : fsq m m1) (g : fsq m1 m2) : fsq m m2 := ⟨g.1.trans h.1, fun c e => (g.2 c e).trans (h.2 c e)⟩
theorem fsq.q {m m' : am_M} (f : fsq m m') : fqC m m' := ⟨fun c hc => f.2 c (by omega), fun c _ => by rw [f.1]⟩
theorem lp_reach {c0 d k b x lv : Nat} {B : Bt} {m : am_M} (h : bC c0 B m) (hl : B.length ≤ 120) (hn : bin c0 B (st c0 x) = false → B.length < 120) (r : Nat) :
    ∀ i f, i + r = B.length → r < f → (∀ i', i' < i → st c0 (bx B i') ≠ st c0 x) → ∃ m', r_Swapper_reach_3 d f (zn (st c0 x)) (zn k) (zn b) (zn i) m = some (none, m') ∧ bC c0 (bA c0 B x k b lv) m' ∧ fsq m m' := by
  have sx : st c0 x < 32768 := st_lt
  induction r with
  | zero =>
    intro i f h1 h2 h3
    obtain ⟨f, rfl⟩ : ∃ g, f = g + 1 := ⟨f - 1, by omega⟩
    have hb : bin c0 B (st c0 x) = false := by
      cases e : bin c0 B (st c0 x) with
      | false => rfl
      | true =>
        obtain ⟨i', q1, q2⟩ := bin_t.mp e
        exact absurd q2 (h3 i' (by omega))
    have hl2 := hn hb
    refine ⟨(am_w (am_w (am_w (am_w m.1 93 B.length (zn (st c0 x))) 94 B.length (zn k)) 95 B.length (zn b)) 92 4 (zn (B.length + 1)), m.2), ?_, ?_, rfl, fun c hc => by simp (disch := omega) only [w_ne, w_at, wl_ne, wl_at, wc_ne, wc_at, upd_at, upd_ne, upl_at, upl_ne, cpy_in0, zn_cl, zn_add, zn_mul, zn_sub, zn_pm, br_tt, br_ff, br_ltT, br_ltF, br_leT, br_leF, br_eqT, br_eqF, br_eqs, br_eqm, br_eqm', br_ltm, br_mlt, br_lem, br_mle, br_oiF, br_lgge, br_lgle, br_lggt, br_lglt, br_lgeq, br_zb, br_zb1, bV_s, bI_s, bL_s, zo_n, zo_s]⟩
    · rw [e_Swapper_reach_3, h.n]; simp (disch := omega) only [w_ne, w_at, wl_ne, wl_at, wc_ne, wc_at, upd_at, upd_ne, upl_at, upl_ne, cpy_in0, zn_cl, zn_add, zn_mul, zn_sub, zn_pm, br_tt, br_ff, br_ltT, br_ltF, br_leT, br_leF, br_eqT, br_eqF, br_eqs, br_eqm, br_eqm', br_ltm, br_mlt, br_lem, br_mle, br_oiF, br_lgge, br_lgle, br_lggt, br_lglt, br_lgeq, br_zb, br_zb1, bV_s, bI_s, bL_s, zo_n, zo_s]
    · unfold bA
      rw [hb, if_neg (by simp)]
      have len : (B ++ [(x, k, b, lv)]).length = B.length + 1 := by rw [List.length_append, List.length_singleton]
      refine ⟨?_, fun i hi => ?_, fun i h0 hi => ?_⟩
      · rw [len]; simp (disch := omega) only [w_ne, w_at, wl_ne, wl_at, wc_ne, wc_at, upd_at, upd_ne, upl_at, upl_ne, cpy_in0, zn_cl, zn_add, zn_mul, zn_sub, zn_pm, br_tt, br_ff, br_ltT, br_ltF, br_leT, br_leF, br_eqT, br_eqF, br_eqs, br_eqm, br_eqm', br_ltm, br_mlt, br_lem, br_mle, br_oiF, br_lgge, br_lgle, br_lggt, br_lglt, br_lgeq, br_zb, br_zb1, bV_s, bI_s, bL_s, zo_n, zo_s]
      · rw [len] at hi
        rcases (by omega : i < B.length ∨ i = B.length) with q | q
        · have e : bx (B ++ [(x, k, b, lv)]) i = bx B i := congrArg (fun e => e.1) (gd_l q)
          rw [e]; simp (disch := omega) only [w_ne, w_at, wl_ne, wl_at, wc_ne, wc_at, upd_at, upd_ne, upl_at, upl_ne, cpy_in0, zn_cl, zn_add, zn_mul, zn_sub, zn_pm, br_tt, br_ff, br_ltT, br_ltF, br_leT, br_leF, br_eqT, br_eqF, br_eqs, br_eqm, br_eqm', br_ltm, br_mlt, br_lem, br_mle, br_oiF, br_lgge, br_lgle, br_lggt, br_lglt, br_lgeq, br_zb, br_zb1, bV_s, bI_s, bL_s, zo_n, zo_s]; exact h.s i q
        · subst q
          have e : bx (B ++ [(x, k, b, lv)]) B.length = x := congrArg (fun e : Nat × Nat × Nat × Nat => e.1) gd_r
          rw [e]; simp (disch := omega) only [w_ne, w_at, wl_ne, wl_at, wc_ne, wc_at, upd_at, upd_ne, upl_at, upl_ne, cpy_in0, zn_cl, zn_add, zn_mul, zn_sub, zn_pm, br_tt, br_ff, br_ltT, br_ltF, br_leT, br_leF, br_eqT, br_eqF, br_eqs, br_eqm, br_eqm', br_ltm, br_mlt, br_lem, br_mle, br_oiF, br_lgge, br_lgle, br_lggt, br_lglt, br_lgeq, br_zb, br_zb1, bV_s, bI_s, bL_s, zo_n, zo_s]
      · rw [len] at hi
        rcases (by omega : i < B.length ∨ i = B.length) with q | q
        · have e : bf (B ++ [(x, k, b, lv)]) i = bf B i := congrArg (fun e => e.2.1) (gd_l q)
          have e2 : bb (B ++ [(x, k, b, lv)]) i = bb B i := congrArg (fun e => e.2.2.1) (gd_l q)
          rw [e, e2]; simp (disch := omega) only [w_ne, w_at, wl_ne, wl_at, wc_ne, wc_at, upd_at, upd_ne, upl_at, upl_ne, cpy_in0, zn_cl, zn_add, zn_mul, zn_sub, zn_pm, br_tt, br_ff, br_ltT, br_ltF, br_leT, br_leF, br_eqT, br_eqF, br_eqs, br_eqm, br_eqm', br_ltm, br_mlt, br_lem, br_mle, br_oiF, br_lgge, br_lgle, br_lggt, br_lglt, br_lgeq, br_zb, br_zb1, bV_s, bI_s, bL_s, zo_n, zo_s]; exact h.f i h0 q
        · subst q
          have e : bf (B ++ [(x, k, b, lv)]) B.length = k := congrArg (fun e : Nat × Nat × Nat × Nat => e.2.1) gd_r
          have e2 : bb (B ++ [(x, k, b, lv)]) B.length = b := congrArg (fun e : Nat × Nat × Nat × Nat => e.2.2.1) gd_r
          rw [e, e2]; simp (disch := omega) only [w_ne, w_at, wl_ne, wl_at, wc_ne, wc_at, upd_at, upd_ne, upl_at, upl_ne, cpy_in0, zn_cl, zn_add, zn_mul, zn_sub, zn_pm, br_tt, br_ff, br_ltT, br_ltF, br_leT, br_leF, br_eqT, br_eqF, br_eqs, br_eqm, br_eqm', br_ltm, br_mlt, br_lem, br_mle, br_oiF, br_lgge, br_lgle, br_lggt, br_lglt, br_lgeq, br_zb, br_zb1, bV_s, bI_s, bL_s, zo_n, zo_s, and_self]
  | succ r ih =>
    intro i f h1 h2 h3
    obtain ⟨f, rfl⟩ : ∃ g, f = g + 1 := ⟨f - 1, by omega⟩
    have si : st c0 (bx B i) < 32768 := st_lt
    rw [e_Swapper_reach_3, h.n, br_leF (by omega) (by omega), br_oiF (by omega) (by omega), zn_cl (by omega), h.s i (by omega), zn_add]
    by_cases e : st c0 (bx B i) = st c0 x
    · rw [br_eqT e]
      refine ⟨m, rfl, ?_, fsq_refl m⟩
      unfold bA
      rw [if_pos (bin_t.mpr ⟨i, by omega, e⟩)]; exact h
    · rw [br_eqF e (by omega) (by omega)]
      exact ih (i + 1) f (by omega) (by omega) (fun i' hi' => by
        rcases (by omega : i' < i ∨ i' = i) with q | q
        · exact h3 i' q
        · rw [q]; exact e)
def Jm (mt : List (Nat × Nat)) : List Nat := mt.map (fun p => jo p.1 p.2)
theorem Jm_len {mt : List (Nat × Nat)} : (Jm mt).length = mt.length := by simp [Jm]
theorem Jm_lt {mt : List (Nat × Nat)} {n : Nat} (hn : n ≤ 5) (h : ∀ p, p ∈ mt → p.1 < p.2 ∧ p.2 < n) : ∀ j, j ∈ Jm mt → j < 10 := by
  intro j hj
  obtain ⟨p, h1, h2⟩ := List.mem_map.mp (show j ∈ mt.map _ from hj)
  have := h p h1
  rw [← h2]; exact (jo_ok p.1 (by omega) p.2 (by omega) this.1).1
theorem Jm_drop {mt : List (Nat × Nat)} {b : Nat} (h : b < mt.length) : Jm (mt.drop b) = jo (mt.getD b (0, 0)).1 (mt.getD b (0, 0)).2 :: Jm (mt.drop (b + 1)) := by
  rw [drop_getD mt b (0, 0) h]; rfl
theorem lp_f62 {c0 k d g X L : Nat} {T : Td} {q : Sq} {w : List Nat} {day : Nat} (hn5 : T 0 0 ≤ 5) (hms : ∀ p, p ∈ q.2.2.1 → p.1 < p.2 ∧ p.2 < T 0 0) (hml : q.2.2.1.length ≤ 10) (hX : X < 120) (r : Nat) :
    ∀ (b f : Nat) (B : Bt) (m : am_M), b + r = q.2.2.1.length → r < f → sn 71 T q.1 q.2.1 q.2.2.1 q.2.2.2 w day m → bC c0 B m → k < B.length → bx B k = X → bl B k = L → wB c0 (Jm q.2.2.1) B → cB c0 (Jm q.2.2.1) B k → (∀ i, i < B.length → bl B i ≤ L + 1) →
    ∃ f' m', r_Swapper_find_62 71 (d + 1) f (zn g) (zn k) (zn b) m = r_Swapper_find_29 71 (d + 1) f' (zn g) (zn (k + 1)) (some (.int (zn q.2.2.1.length))) m' ∧ f ≤ f' + r + 1 ∧ bC c0 (bE c0 X L k (Jm (q.2.2.1.drop b)) b B) m' ∧ fsq m m' := by
  have hk : sc_k 71 := Or.inr (Or.inr (Or.inl rfl))
  have hJ := Jm_lt hn5 hms
  induction r with
  | zero =>
    intro b f B m h1 h2 s hC hkB hbx hbl w1 c1 hm
    obtain ⟨f, rfl⟩ : ∃ g, f = g + 1 := ⟨f - 1, by omega⟩
    refine ⟨f, m, ?_, by omega, ?_, fsq_refl m⟩
    · rw [e_Swapper_find_62 hk, s.ml, br_leT (by omega) (by omega), zn_add, show b = q.2.2.1.length from by omega]
    · rw [List.drop_eq_nil_of_le (by omega)]; exact hC
  | succ r ih =>
    intro b f B m h1 h2 s hC hkB hbx hbl w1 c1 hm
    obtain ⟨f, rfl⟩ : ∃ g, f = g + 1 := ⟨f - 1, by omega⟩
    have hp := hms _ (getD_mem q.2.2.1 b (0, 0) (by omega))
    have jk := jo_ok (q.2.2.1.getD b (0, 0)).1 (by omega) (q.2.2.1.getD b (0, 0)).2 (by omega) hp.1
    have hlB := wB_len w1
    have sk : m.1 93 k = zn (st c0 X) := by rw [hC.s k hkB, hbx]
    have hsw : am_c (d + 1) y_Swapper_swapped [.int (zn (st c0 X)), .int (m.1 76 b), .int (m.1 77 b)] m = some (some (.int (zn (st c0 (nb X (jo (q.2.2.1.getD b (0, 0)).1 (q.2.2.1.getD b (0, 0)).2))))), m) := by
      rw [st_nb hX jk.1, jk.2.1, jk.2.2]
      rcases s.ms b (by omega) with ⟨e1, e2⟩ | ⟨e1, e2⟩
      · have e1' : m.1 76 b = _ := e1
        have e2' : m.1 77 b = _ := e2
        rw [e1', e2', s_swapC st_lt (by omega) (by omega)]
      · have e1' : m.1 76 b = _ := e1
        have e2' : m.1 77 b = _ := e2
        rw [e1', e2', s_swapC st_lt (by omega) (by omega), swn_comm st_lt (by omega) (by omega) (by omega)]
    have hjm : jo (q.2.2.1.getD b (0, 0)).1 (q.2.2.1.getD b (0, 0)).2 ∈ Jm q.2.2.1 := List.mem_map.mpr ⟨_, getD_mem q.2.2.1 b (0, 0) (by omega), rfl⟩
    obtain ⟨a1, a2, a3, a4, a5, a6⟩ := bA_ok hJ w1 c1 hkB (by rw [hbl]; exact hm) hjm (b := b) (by rw [Jm_len]; omega)
    rw [hbx, hbl] at a1 a2 a3 a4 a5 a6
    obtain ⟨m1, r1, r2, r3⟩ := lp_reach (d := d) (k := k) (b := b) (x := nb X (jo (q.2.2.1.getD b (0, 0)).1 (q.2.2.1.getD b (0, 0)).2)) (lv := L + 1) hC hlB (fun e => by
      have := wB_len a1
      unfold bA at this
      rw [e, if_neg (by simp), List.length_append, List.length_singleton] at this; omega) B.length 0 29999 (by omega) (by omega) (fun i' hi' => by omega)
    obtain ⟨f', m', i1, i0, i2, i3⟩ := ih (b + 1) f _ m1 (by omega) (by omega) (s.mono (fun p _ _ => r3.2 p (by omega))) r2 (by omega) ((congrArg (fun e => e.1) (a4 k hkB)).trans hbx) ((congrArg (fun e => e.2.2.2) (a4 k hkB)).trans hbl) a1 a2 a5
    refine ⟨f', m', ?_, by omega, ?_, fsq_tr r3 i3⟩
    · rw [e_Swapper_find_62 hk, s.ml, br_leF (by omega) (by omega), br_oiF (by omega) (by omega), br_oiF (by omega) (by omega), br_oiF (by omega) (by omega), zn_cl (by omega), zn_cl (by omega), sk]
      have hsw' : am_c (d + 1) y_Swapper_swapped [.int (zn (st c0 X)), .int (m.1 (71 + 5) b), .int (m.1 (71 + 6) b)] m = _ := hsw
      rw [hsw', bI_s, n_Swapper_reach, r1, bV_s, zn_add, i1]
    · rw [Jm_drop (by omega), bE]; exact i2
/-! the way back -/
theorem tb_1 {d n k l : Nat} {x1 x2 : Int32} {m : am_M} (hk0 : 0 < k) (hk : k < 120) (hl0 : 0 < l) (hl : l ≤ 120) : r_Swapper_traceBack_32 d (n + 1) x1 x2 (zn l) (zn k) m = r_Swapper_traceBack_32 d n x1 x2 (zn (l - 1)) (m.1 94 k) (am_w m.1 96 (l - 1) (m.1 95 k), m.2) := by
  rw [e_Swapper_traceBack_32, b_Swapper_traceBack_32, b_Swapper_traceBack_34, br_leF (by omega) (by omega), b_Swapper_traceBack_37, b_Swapper_traceBack_38, br_leF (by omega) (by omega), b_Swapper_traceBack_41, zn_pm (by omega), b_Swapper_traceBack_44, b_Swapper_traceBack_45, b_Swapper_traceBack_48, b_Swapper_traceBack_49, b_Swapper_traceBack_50, b_Swapper_traceBack_53, b_Swapper_traceBack_55, br_oiF (by omega) (by omega), b_Swapper_traceBack_56, br_oiF (by omega) (by omega), b_Swapper_traceBack_57, b_Swapper_traceBack_58, b_Swapper_traceBack_61, b_Swapper_traceBack_63, br_oiF (by omega) (by omega), b_Swapper_traceBack_64, b_Swapper_traceBack_66, zn_cl (by omega), zn_cl (by omega)]
  simp (disch := omega) only [w_ne, w_at, wl_ne, wl_at, wc_ne, wc_at, upd_at, upd_ne, upl_at, upl_ne, cpy_in0, zn_cl, zn_add, zn_mul, zn_sub, zn_pm, br_tt, br_ff, br_ltT, br_ltF, br_leT, br_leF, br_eqT, br_eqF, br_eqs, br_eqm, br_eqm', br_ltm, br_mlt, br_lem, br_mle, br_oiF, br_lgge, br_lgle, br_lggt, br_lglt, br_lgeq, br_zb, br_zb1, bV_s, bI_s, bL_s, zo_n, zo_s]
theorem tb_0 {d n l : Nat} {x1 x2 : Int32} {m : am_M} : r_Swapper_traceBack_32 d (n + 1) x1 x2 (zn l) (zn 0) m = some (some (.int x2), m) := by
  rw [e_Swapper_traceBack_32, b_Swapper_traceBack_32, b_Swapper_traceBack_34, br_leT (by omega) (by omega), b_Swapper_traceBack_69, b_Swapper_traceBack_70]
theorem lp_tb2 {c0 d e N : Nat} {J : List Nat} {B : Bt} (w : wB c0 J B) (n : Nat) : ∀ (k f : Nat) (m : am_M), k < B.length → bl B k = n → n < f → bC c0 B m →
    ∃ m', r_Swapper_traceBack_32 d f (zn e) (zn N) (zn n) (zn k) m = some (some (.int (zn N)), m') ∧ m'.2 = m.2 ∧ (∀ c, c ≠ 96 → m'.1 c = m.1 c) ∧ (∀ i, i < n → m'.1 96 i = zn ((trc B n k).getD i 0)) ∧ ∀ i, n ≤ i → m'.1 96 i = m.1 96 i := by
  have hl := wB_len w
  induction n with
  | zero =>
    intro k f m hk hl0 hf h
    obtain ⟨f, rfl⟩ : ∃ g, f = g + 1 := ⟨f - 1, by omega⟩
    rcases wB_up w hk with q | q
    · rw [q.1]
      exact ⟨m, tb_0, rfl, fun _ _ => rfl, fun i hi => by omega, fun _ _ => rfl⟩
    · omega
  | succ n ih =>
    intro k f m hk hl0 hf h
    obtain ⟨f, rfl⟩ : ∃ g, f = g + 1 := ⟨f - 1, by omega⟩
    have h10 := w.t k hk
    rcases wB_up w hk with q | ⟨q1, q2, q3, q4⟩
    · omega
    · have hf2 := h.f k q1 hk
      obtain ⟨m', b1, b2, b3, b4, b5⟩ := ih (bf B k) f (am_w m.1 96 n (zn (bb B k)), m.2) (by omega) (by omega) (by omega) ⟨by simp (disch := omega) only [w_ne, w_at, wl_ne, wl_at, wc_ne, wc_at, upd_at, upd_ne, upl_at, upl_ne, cpy_in0, zn_cl, zn_add, zn_mul, zn_sub, zn_pm, br_tt, br_ff, br_ltT, br_ltF, br_leT, br_leF, br_eqT, br_eqF, br_eqs, br_eqm, br_eqm', br_ltm, br_mlt, br_lem, br_mle, br_oiF, br_lgge, br_lgle, br_lggt, br_lglt, br_lgeq, br_zb, br_zb1, bV_s, bI_s, bL_s, zo_n, zo_s, h.n], fun i hi => by simp (disch := omega) only [w_ne, w_at, wl_ne, wl_at, wc_ne, wc_at, upd_at, upd_ne, upl_at, upl_ne, cpy_in0, zn_cl, zn_add, zn_mul, zn_sub, zn_pm, br_tt, br_ff, br_ltT, br_ltF, br_leT, br_leF, br_eqT, br_eqF, br_eqs, br_eqm, br_eqm', br_ltm, br_mlt, br_lem, br_mle, br_oiF, br_lgge, br_lgle, br_lggt, br_lglt, br_lgeq, br_zb, br_zb1, bV_s, bI_s, bL_s, zo_n, zo_s]; exact h.s i hi, fun i h0 hi => by simp (disch := omega) only [w_ne, w_at, wl_ne, wl_at, wc_ne, wc_at, upd_at, upd_ne, upl_at, upl_ne, cpy_in0, zn_cl, zn_add, zn_mul, zn_sub, zn_pm, br_tt, br_ff, br_ltT, br_ltF, br_leT, br_leF, br_eqT, br_eqF, br_eqs, br_eqm, br_eqm', br_ltm, br_mlt, br_lem, br_mle, br_oiF, br_lgge, br_lgle, br_lggt, br_lglt, br_lgeq, br_zb, br_zb1, bV_s, bI_s, bL_s, zo_n, zo_s]; exact h.f i h0 hi⟩
      refine ⟨m', ?_, b2, fun c hc => by rw [b3 c hc]; simp (disch := omega) only [w_ne, w_at, wl_ne, wl_at, wc_ne, wc_at, upd_at, upd_ne, upl_at, upl_ne, cpy_in0, zn_cl, zn_add, zn_mul, zn_sub, zn_pm, br_tt, br_ff, br_ltT, br_ltF, br_leT, br_leF, br_eqT, br_eqF, br_eqs, br_eqm, br_eqm', br_ltm, br_mlt, br_lem, br_mle, br_oiF, br_lgge, br_lgle, br_lggt, br_lglt, br_lgeq, br_zb, br_zb1, bV_s, bI_s, bL_s, zo_n, zo_s], fun i hi => ?_, fun i hi => ?_⟩
      · rw [tb_1 q1 (by omega) (by omega) (by omega), hf2.1, hf2.2, Nat.add_sub_cancel, b1]
      · rcases Nat.lt_or_ge i n with g | g
        · rw [trc_lo g]; exact b4 i g
        · have : i = n := by omega
          subst this
          rw [trc_at, b5 i (Nat.le_refl _)]; simp (disch := omega) only [w_ne, w_at, wl_ne, wl_at, wc_ne, wc_at, upd_at, upd_ne, upl_at, upl_ne, cpy_in0, zn_cl, zn_add, zn_mul, zn_sub, zn_pm, br_tt, br_ff, br_ltT, br_ltF, br_leT, br_leF, br_eqT, br_eqF, br_eqs, br_eqm, br_eqm', br_ltm, br_mlt, br_lem, br_mle, br_oiF, br_lgge, br_lgle, br_lggt, br_lglt, br_lgeq, br_zb, br_zb1, bV_s, bI_s, bL_s, zo_n, zo_s]
      · rw [b5 i (by omega)]; simp (disch := omega) only [w_ne, w_at, wl_ne, wl_at, wc_ne, wc_at, upd_at, upd_ne, upl_at, upl_ne, cpy_in0, zn_cl, zn_add, zn_mul, zn_sub, zn_pm, br_tt, br_ff, br_ltT, br_ltF, br_leT, br_leF, br_eqT, br_eqF, br_eqs, br_eqm, br_eqm', br_ltm, br_mlt, br_lem, br_mle, br_oiF, br_lgge, br_lgle, br_lggt, br_lglt, br_lgeq, br_zb, br_zb1, bV_s, bI_s, bL_s, zo_n, zo_s]
theorem lp_tb1 {c0 d e : Nat} {J : List Nat} {B : Bt} {m : am_M} (w : wB c0 J B) (h : bC c0 B m) (n : Nat) : ∀ (k f l : Nat), k < B.length → bl B k = n → n < f → l + n ≤ 10 →
    ∃ f', r_Swapper_traceBack_4 d f (zn e) (zn l) (zn k) m = r_Swapper_traceBack_32 d f' (zn e) (zn (l + n)) (zn (l + n)) (zn e) m ∧ f ≤ f' + n + 1 := by
  have hl := wB_len w
  induction n with
  | zero =>
    intro k f l hk hl0 hf h10
    obtain ⟨f, rfl⟩ : ∃ g, f = g + 1 := ⟨f - 1, by omega⟩
    rcases wB_up w hk with q | q
    · exact ⟨f, by rw [q.1, e_Swapper_traceBack_4, br_leT (by omega) (by omega)]; rfl, by omega⟩
    · omega
  | succ n ih =>
    intro k f l hk hl0 hf h10
    obtain ⟨f, rfl⟩ : ∃ g, f = g + 1 := ⟨f - 1, by omega⟩
    rcases wB_up w hk with q | ⟨q1, q2, q3, q4⟩
    · omega
    · have hf2 := h.f k q1 hk
      obtain ⟨f', b1, b0⟩ := ih (bf B k) f (l + 1) (by omega) (by omega) (by omega) (by omega)
      refine ⟨f', ?_, by omega⟩
      rw [e_Swapper_traceBack_4, br_leF (by omega) (by omega), br_leF (by omega) (by omega), br_oiF (by omega) (by omega), zn_cl (by omega), hf2.1, zn_add, b1, show l + 1 + n = l + (n + 1) from by omega]
theorem s_trace {c0 d k : Nat} {J : List Nat} {B : Bt} {m : am_M} (w : wB c0 J B) (h : bC c0 B m) (hk : k < B.length) :
    ∃ m', am_c (d + 1) y_Swapper_traceBack [.ref 92, .int (zn k)] m = some (some (.int (zn (bl B k))), m') ∧ fsq m m' ∧ ∀ i, i < bl B k → m'.1 96 i = zn ((trc B (bl B k) k).getD i 0) := by
  have h10 := w.t k hk
  obtain ⟨f', a1, a0⟩ := lp_tb1 (d := d) (e := k) w h (bl B k) k 29999 0 hk rfl (by omega) (by omega)
  rw [Nat.zero_add] at a1
  obtain ⟨m', b1, b2, b3, b4, b5⟩ := lp_tb2 (d := d) (e := k) (N := bl B k) w (bl B k) k f' m hk rfl (by omega) h
  exact ⟨m', by rw [n_Swapper_traceBack, a1, b1], ⟨b2, fun c hc => b3 c (by omega)⟩, b4⟩
def zr : Option (Nat × Bt) → Int32
  | none => zq
  | some (k, B) => zn (bl B k)
theorem lp_f29 {c0 d g : Nat} {T : Td} {q : Sq} {w : List Nat} {day : Nat} (hg : g < 32768) (hn5 : T 0 0 ≤ 5) (hms : ∀ p, p ∈ q.2.2.1 → p.1 < p.2 ∧ p.2 < T 0 0) (hml : q.2.2.1.length ≤ 10) (R : Nat) :
    ∀ (k f : Nat) (B : Bt) (x4 : Option Value) (m : am_M), 121 ≤ k + R → k ≤ 120 → 20 * R + 20 < f → sn 71 T q.1 q.2.1 q.2.2.1 q.2.2.2 w day m → bC c0 B m → wB c0 (Jm q.2.2.1) B → cB c0 (Jm q.2.2.1) B k → (k < B.length → ∀ i, i < B.length → bl B i ≤ bl B k + 1) →
    ∃ m', r_Swapper_find_29 71 (d + 1) f (zn g) (zn k) x4 m = some (some (.int (zr (bF c0 (Jm q.2.2.1) g R k B))), m') ∧ fsq m m' ∧ ∀ k' B', bF c0 (Jm q.2.2.1) g R k B = some (k', B') → k' < B'.length ∧ wB c0 (Jm q.2.2.1) B' ∧ ∀ i, i < bl B' k' → m'.1 96 i = zn ((trc B' (bl B' k') k').getD i 0) := by
  have hk : sc_k 71 := Or.inr (Or.inr (Or.inl rfl))
  have hJ := Jm_lt hn5 hms
  induction R with
  | zero => intro k f B x4 m h1 h2; omega
  | succ R ih =>
    intro k f B x4 m h1 h2 h3 s hC w1 c1 hm
    obtain ⟨f, rfl⟩ : ∃ g, f = g + 1 := ⟨f - 1, by omega⟩
    have hlB := wB_len w1
    rw [e_Swapper_find_29 hk, hC.n, bF]
    by_cases e1 : B.length ≤ k
    · rw [br_leT e1 (by omega), if_pos e1]
      exact ⟨m, rfl, fsq_refl m, fun k' B' e => by cases e⟩
    · have sk := hC.s k (by omega)
      have stk : st c0 (bx B k) < 32768 := st_lt
      rw [br_leF (by omega) (by omega), br_leF (by omega) (by omega), br_oiF (by omega) (by omega), zn_cl (by omega), sk, if_neg e1]
      by_cases e2 : st c0 (bx B k) = g
      · obtain ⟨m1, a1, a2, a3⟩ := s_trace (d := d) w1 hC (show k < B.length by omega)
        rw [br_eqT e2, a1, bI_s, if_pos e2]
        exact ⟨m1, rfl, a2, fun k' B' e => by cases e; exact ⟨by omega, w1, a3⟩⟩
      · have hm' := hm (by omega)
        obtain ⟨f', m1, a1, a0, a2, a3⟩ := lp_f62 (d := d) (g := g) (k := k) hn5 hms hml (w1.x k (by omega)) q.2.2.1.length 0 f B m (by omega) (by omega) s hC (by omega) rfl rfl w1 c1 hm'
        rw [List.drop_zero] at a2
        obtain ⟨b1, b2, b3⟩ := bE_step hJ w1 c1 (by omega) hm'
        rw [br_eqF e2 (by omega) (by omega), a1, if_neg e2]
        obtain ⟨m', i1, i2, i3⟩ := ih (k + 1) f' _ (some (.int (zn q.2.2.1.length))) m1 (by omega) (by omega) (by omega) (s.mono (fun p _ _ => a3.2 p (by omega))) a2 b1 b2 (fun h i hi => b3 i hi h)
        exact ⟨m', i1, fsq_tr a3 i2, i3⟩
