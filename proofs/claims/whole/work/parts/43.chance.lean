/-! chance -/
def fqN (m : am_M) (m' : am_M) : Prop :=
  (∀ c, c ≤ 106 ∨ 108 ≤ c ∧ c ≤ 129 ∨ c = 136 ∨ c = 138 ∨ c = 139 ∨ c = 148 ∨ 153 ≤ c → m'.1 c = m.1 c)
  ∧ (∀ i, i < 5 → m'.1 132 i = m.1 132 i ∧ m'.1 133 i = m.1 133 i ∧ m'.1 137 i = m.1 137 i)
  ∧ (m'.1 134 0 = m.1 134 0)
  ∧ (m'.1 135 0 = m.1 135 0)
  ∧ (∀ i, i = 1 ∨ i = 4 ∨ i = 5 ∨ 12 ≤ i ∧ i ≤ 15 ∨ i = 55 ∨ i = 78 ∨ i = 79 ∨ i = 85 ∨ i = 87 ∨ i = 90 ∨ i = 91 → m'.1 107 i = m.1 107 i)
  ∧ (∀ c, c ≤ 106 → m'.2 c = m.2 c)
  ∧ (m'.2 107 92 = m.2 107 92)
theorem fqN.c {m : am_M} {m' : am_M} (hZ : fqN m m') : ∀ c, c ≤ 106 ∨ 108 ≤ c ∧ c ≤ 129 ∨ c = 136 ∨ c = 138 ∨ c = 139 ∨ c = 148 ∨ 153 ≤ c → m'.1 c = m.1 c := hZ.1
theorem fqN.s {m : am_M} {m' : am_M} (hZ : fqN m m') : ∀ i, i < 5 → m'.1 132 i = m.1 132 i ∧ m'.1 133 i = m.1 133 i ∧ m'.1 137 i = m.1 137 i := hZ.2.1
theorem fqN.w {m : am_M} {m' : am_M} (hZ : fqN m m') : m'.1 134 0 = m.1 134 0 := hZ.2.2.1
theorem fqN.d {m : am_M} {m' : am_M} (hZ : fqN m m') : m'.1 135 0 = m.1 135 0 := hZ.2.2.2.1
theorem fqN.f {m : am_M} {m' : am_M} (hZ : fqN m m') : ∀ i, i = 1 ∨ i = 4 ∨ i = 5 ∨ 12 ≤ i ∧ i ≤ 15 ∨ i = 55 ∨ i = 78 ∨ i = 79 ∨ i = 85 ∨ i = 87 ∨ i = 90 ∨ i = 91 → m'.1 107 i = m.1 107 i := hZ.2.2.2.2.1
theorem fqN.l {m : am_M} {m' : am_M} (hZ : fqN m m') : ∀ c, c ≤ 106 → m'.2 c = m.2 c := hZ.2.2.2.2.2.1
theorem fqN.r {m : am_M} {m' : am_M} (hZ : fqN m m') : m'.2 107 92 = m.2 107 92 := hZ.2.2.2.2.2.2
theorem fqN_tr {m m1 m2 : am_M} (h : fqN m m1) (g : fqN m1 m2) : fqN m m2 :=
  ⟨fun c e => (g.c c e).trans (h.c c e), fun i e => ⟨(g.s i e).1.trans (h.s i e).1, (g.s i e).2.1.trans (h.s i e).2.1, (g.s i e).2.2.trans (h.s i e).2.2⟩, g.w.trans h.w, g.d.trans h.d, fun i e => (g.f i e).trans (h.f i e), fun c e => (g.l c e).trans (h.l c e), g.r.trans h.r⟩
theorem fqR.N {m m' : am_M} (h : fqR m m') : fqN m m' := ⟨h.c, h.s, h.w, h.d, h.f, h.l, h.r.2⟩
theorem fqN.R {m m' : am_M} (h : fqN m m') (e : m'.2 107 58 = m.2 107 58) : fqR m m' := ⟨h.c, h.s, h.w, h.d, h.f, h.l, e, h.r⟩
theorem fqN_refl (m : am_M) : fqN m m := (fqR_refl m).N
theorem tR.N {T G F : Td} {m m' : am_M} (c : tR T G F m) (f : fqN m m') : tR T G F m' := c.mono (fun q _ _ => f.c q (by omega)) (fun i _ _ => f.f i (by omega))
theorem nR.N {T : Td} {ord : List Nat} {U : Nat → Nat} {mt : List (Nat × Nat)} {h : Hs} {w : List Nat} {day num num' : Nat} {m m' : am_M} (s : nR T ord U mt h w day num m) (hw : w.length ≤ 5) (W : tW T) (f : fqN m m') (e : m'.2 107 58 = (zn num').toInt64) : nR T ord U mt h w day num' m' := by
  have := W.n; have := W.L
  refine ⟨fun i hi => ?_, fun i h1 h2 => ?_, ?_, fun i hi => ?_, ?_, s.ol, fun i hi => ?_, ?_, ?_, ?_, e⟩
  · rw [(f.s i (by omega)).1]; exact s.hs i hi
  · rw [(f.s i h2).1]; exact s.h5 i h1 h2
  · rw [f.w]; exact s.wl
  · rw [(f.s i (by omega)).2.1]; exact s.ws i hi
  · rw [f.d]; exact s.dy
  · rw [(f.s i (by omega)).2.2]; exact s.os i hi
  · rw [f.c 136 (by omega)]; exact s.hu
  · rw [f.f 55 (by omega)]; exact s.ml
  · rw [f.c 138 (by omega), f.c 139 (by omega)]; exact s.ms
theorem fr0.N {m m' : am_M} (f : fr0 m m') (e1 : ∀ i, i < 5 * 1 ∨ 5 * 1 + 5 ≤ i → m'.1 132 i = m.1 132 i ∧ m'.1 133 i = m.1 133 i) (e2 : ∀ i, i ≠ 1 → m'.1 134 i = m.1 134 i ∧ m'.1 135 i = m.1 135 i) : fqN m m' :=
  ⟨fun c hc => f.2.2.1 c (by omega) (by omega) (by omega) (by omega) (by omega), fun i hi => ⟨(e1 i (by omega)).1, (e1 i (by omega)).2, by rw [f.2.2.1 137 (by omega) (by omega) (by omega) (by omega) (by omega)]⟩, (e2 0 (by omega)).1, (e2 0 (by omega)).2, fun i hi => f.2.2.2 i (by omega), fun c hc => f.1 c (by omega) (by omega) (by omega) (by omega), f.2.1 92 (by omega)⟩
def sp_cc (T V : Td) (E : Ev) (U : Nat → Nat) (ord : List Nat) (mt : List (Nat × Nat)) (n bd1 day : Nat) (h : Hs) (w : List Nat) : Nat → Nat → Nat → Nat
  | 0, _, cnt => cnt
  | r + 1, num, cnt => sp_cc T V E U ord mt n bd1 day h w r (sp_it T V E U ord mt n day num h w).1 (if sp_own (T 0 0) (sp_it T V E U ord mt n day num h w).2.1 < bd1 then cnt else cnt + 1)
theorem own_le {n : Nat} {h : Hs} : sp_own n h ≤ n := sum_le (fun j => by split <;> omega) n 0
theorem lp_ch1 {T V : Td} {E : Ev} (W : tw T V) (hE : evW E) {U : Nat → Nat} {ord : List Nat} {mt : List (Nat × Nat)} {n d : Nat} {x1 x3 x4 x5 x6 : Int32} (hn : n ≤ 20) (r : Nat) :
    ∀ (j f day num : Nat) (h : Hs) (w : List Nat) (m : am_M), j + r = n → r < f → sw T ord U mt (day + r) → cx T V E m → sn 85 T ord U mt h w day m → m.1 85 11 = zn num → num < 2147483648 → hwI (T 0 0) h w →
    ∃ f' m', r_C_chance_65 (d + 6) f x1 (zn n) x3 x4 x5 x6 (zn j) m = r_C_chance_65 (d + 6) (f' + 1) x1 (zn n) x3 x4 x5 x6 (zn n) m' ∧ f ≤ f' + r + 1 ∧ sn 85 T ord U mt (sp_it T V E U ord mt r day num h w).2.1 (sp_it T V E U ord mt r day num h w).2.2 (day + r) m' ∧ m'.1 85 11 = zn (sp_it T V E U ord mt r day num h w).1 ∧ fdn 85 m m' := by
  have hk : sc_k 85 := Or.inr (Or.inr (Or.inr (Or.inr rfl)))
  induction r with
  | zero =>
    intro j f day num h w m h1 h2 S c s hm hb I
    refine ⟨f - 1, m, ?_, by omega, s, hm, fdn_refl 85 m⟩
    rw [Nat.sub_add_cancel (by omega), show j = n from by omega]
  | succ r ih =>
    intro j f day num h w m h1 h2 S c s hm hb I
    obtain ⟨f, rfl⟩ : ∃ g, f = g + 1 := ⟨f - 1, by omega⟩
    have S0 : sw T ord U mt day := ⟨S.ol, S.os, S.hu, S.ml, S.ms, by have := S.dy; omega⟩
    have S1 : sw T ord U mt (day + 1 + r) := ⟨S.ol, S.os, S.hu, S.ml, S.ms, by have := S.dy; omega⟩
    obtain ⟨m1, a1, a2, a3, a4⟩ := s_passN hk W hE S0 c s hm hb I (d := d)
    obtain ⟨f', m', b1, b0, b2, b3, b4⟩ := ih (j + 1) f (day + 1) (sp_num T num) _ _ m1 (by omega) (by omega) S1 (c.fn hk a4) a2 a3 (num_lt hb) (dy_hw S.ms I)
    rw [show day + 1 + r = day + (r + 1) from by omega] at b2
    refine ⟨f', m', ?_, by omega, b2, b3, fdn_tr a4 b4⟩
    rw [e_C_chance_65, br_leF (by omega) (by omega), a1, bV_s, zn_add, b1]
theorem fdn.q {k : Nat} {m m' : am_M} (f : fdn k m m') (hk : k = 52 ∨ k = 59 ∨ k = 85) : fqC m m' := ⟨fun c hc => f.2 c (by omega) (by omega) (by omega), fun c hc => f.1 c (by omega) (by omega) (by omega) (by omega)⟩
/-- the last number of a scene is set -/
theorem sn.num {k : Nat} {T : Td} {ord : List Nat} {U : Nat → Nat} {mt : List (Nat × Nat)} {h : Hs} {w : List Nat} {day : Nat} {m : am_M} {x : Int32} (s : sn k T ord U mt h w day m) : sn k T ord U mt h w day (am_w m.1 k 11 x, m.2) ∧ fdn k m (am_w m.1 k 11 x, m.2) := by
  refine ⟨⟨?_, ?_, ?_, ?_, ?_, ?_, ?_, ?_, ?_, ?_⟩, fun _ _ _ _ _ => rfl, ?_⟩
  · simp (disch := omega) only [w_ne, w_at, wl_ne, wl_at, wc_ne, wc_at, upd_at, upd_ne, upl_at, upl_ne, cpy_in0, zn_cl, zn_add, zn_mul, zn_sub, zn_pm, br_tt, br_ff, br_ltT, br_ltF, br_leT, br_leF, br_eqT, br_eqF, br_eqs, br_eqm, br_eqm', br_ltm, br_mlt, br_lem, br_mle, br_oiF, br_lgge, br_lgle, br_lggt, br_lglt, br_lgeq, br_zb, br_zb1, bV_s, bI_s, bL_s, zo_n, zo_s, s.n]
  · intro i hi; simp (disch := omega) only [w_ne, w_at, wl_ne, wl_at, wc_ne, wc_at, upd_at, upd_ne, upl_at, upl_ne, cpy_in0, zn_cl, zn_add, zn_mul, zn_sub, zn_pm, br_tt, br_ff, br_ltT, br_ltF, br_leT, br_leF, br_eqT, br_eqF, br_eqs, br_eqm, br_eqm', br_ltm, br_mlt, br_lem, br_mle, br_oiF, br_lgge, br_lgle, br_lggt, br_lglt, br_lgeq, br_zb, br_zb1, bV_s, bI_s, bL_s, zo_n, zo_s, s.hs]
  · simp (disch := omega) only [w_ne, w_at, wl_ne, wl_at, wc_ne, wc_at, upd_at, upd_ne, upl_at, upl_ne, cpy_in0, zn_cl, zn_add, zn_mul, zn_sub, zn_pm, br_tt, br_ff, br_ltT, br_ltF, br_leT, br_leF, br_eqT, br_eqF, br_eqs, br_eqm, br_eqm', br_ltm, br_mlt, br_lem, br_mle, br_oiF, br_lgge, br_lgle, br_lggt, br_lglt, br_lgeq, br_zb, br_zb1, bV_s, bI_s, bL_s, zo_n, zo_s, s.wl]
  · intro i hi; simp (disch := omega) only [w_ne, w_at, wl_ne, wl_at, wc_ne, wc_at, upd_at, upd_ne, upl_at, upl_ne, cpy_in0, zn_cl, zn_add, zn_mul, zn_sub, zn_pm, br_tt, br_ff, br_ltT, br_ltF, br_leT, br_leF, br_eqT, br_eqF, br_eqs, br_eqm, br_eqm', br_ltm, br_mlt, br_lem, br_mle, br_oiF, br_lgge, br_lgle, br_lggt, br_lglt, br_lgeq, br_zb, br_zb1, bV_s, bI_s, bL_s, zo_n, zo_s, s.ws]
  · simp (disch := omega) only [w_ne, w_at, wl_ne, wl_at, wc_ne, wc_at, upd_at, upd_ne, upl_at, upl_ne, cpy_in0, zn_cl, zn_add, zn_mul, zn_sub, zn_pm, br_tt, br_ff, br_ltT, br_ltF, br_leT, br_leF, br_eqT, br_eqF, br_eqs, br_eqm, br_eqm', br_ltm, br_mlt, br_lem, br_mle, br_oiF, br_lgge, br_lgle, br_lggt, br_lglt, br_lgeq, br_zb, br_zb1, bV_s, bI_s, bL_s, zo_n, zo_s, s.dy]
  · simp (disch := omega) only [w_ne, w_at, wl_ne, wl_at, wc_ne, wc_at, upd_at, upd_ne, upl_at, upl_ne, cpy_in0, zn_cl, zn_add, zn_mul, zn_sub, zn_pm, br_tt, br_ff, br_ltT, br_ltF, br_leT, br_leF, br_eqT, br_eqF, br_eqs, br_eqm, br_eqm', br_ltm, br_mlt, br_lem, br_mle, br_oiF, br_lgge, br_lgle, br_lggt, br_lglt, br_lgeq, br_zb, br_zb1, bV_s, bI_s, bL_s, zo_n, zo_s, s.ol]
  · intro i hi; simp (disch := omega) only [w_ne, w_at, wl_ne, wl_at, wc_ne, wc_at, upd_at, upd_ne, upl_at, upl_ne, cpy_in0, zn_cl, zn_add, zn_mul, zn_sub, zn_pm, br_tt, br_ff, br_ltT, br_ltF, br_leT, br_leF, br_eqT, br_eqF, br_eqs, br_eqm, br_eqm', br_ltm, br_mlt, br_lem, br_mle, br_oiF, br_lgge, br_lgle, br_lggt, br_lglt, br_lgeq, br_zb, br_zb1, bV_s, bI_s, bL_s, zo_n, zo_s, s.os]
  · intro i hi; simp (disch := omega) only [w_ne, w_at, wl_ne, wl_at, wc_ne, wc_at, upd_at, upd_ne, upl_at, upl_ne, cpy_in0, zn_cl, zn_add, zn_mul, zn_sub, zn_pm, br_tt, br_ff, br_ltT, br_ltF, br_leT, br_leF, br_eqT, br_eqF, br_eqs, br_eqm, br_eqm', br_ltm, br_mlt, br_lem, br_mle, br_oiF, br_lgge, br_lgle, br_lggt, br_lglt, br_lgeq, br_zb, br_zb1, bV_s, bI_s, bL_s, zo_n, zo_s, s.hu]
  · simp (disch := omega) only [w_ne, w_at, wl_ne, wl_at, wc_ne, wc_at, upd_at, upd_ne, upl_at, upl_ne, cpy_in0, zn_cl, zn_add, zn_mul, zn_sub, zn_pm, br_tt, br_ff, br_ltT, br_ltF, br_leT, br_leF, br_eqT, br_eqF, br_eqs, br_eqm, br_eqm', br_ltm, br_mlt, br_lem, br_mle, br_oiF, br_lgge, br_lgle, br_lggt, br_lglt, br_lgeq, br_zb, br_zb1, bV_s, bI_s, bL_s, zo_n, zo_s, s.ml]
  · intro i hi; simp (disch := omega) only [w_ne, w_at, wl_ne, wl_at, wc_ne, wc_at, upd_at, upd_ne, upl_at, upl_ne, cpy_in0, zn_cl, zn_add, zn_mul, zn_sub, zn_pm, br_tt, br_ff, br_ltT, br_ltF, br_leT, br_leF, br_eqT, br_eqF, br_eqs, br_eqm, br_eqm', br_ltm, br_mlt, br_lem, br_mle, br_oiF, br_lgge, br_lgle, br_lggt, br_lglt, br_lgeq, br_zb, br_zb1, bV_s, bI_s, bL_s, zo_n, zo_s]; exact s.ms i hi
  · intro c c1 c2 c3; simp (disch := omega) only [w_ne, w_at, wl_ne, wl_at, wc_ne, wc_at, upd_at, upd_ne, upl_at, upl_ne, cpy_in0, zn_cl, zn_add, zn_mul, zn_sub, zn_pm, br_tt, br_ff, br_ltT, br_ltF, br_leT, br_leF, br_eqT, br_eqF, br_eqs, br_eqm, br_eqm', br_ltm, br_mlt, br_lem, br_mle, br_oiF, br_lgge, br_lgle, br_lggt, br_lglt, br_lgeq, br_zb, br_zb1, bV_s, bI_s, bL_s, zo_n, zo_s]
theorem lp_ch {T G F : Td} {q : Sq} {w : List Nat} {day n0 n bd1 d : Nat} {x1 : Int32} (hn : n ≤ 20) (hbd : bd1 ≤ 5) (r : Nat) :
    ∀ (i f num cnt : Nat) (x7 : Option Value) (m : am_M), i + r = 10 → 100 * r < f → cnt ≤ i → num < 2147483648 → Core T G F q w day n0 m →
    ∃ m', r_C_chance_35 (d + 6) f x1 (zn n) (zn bd1) (zn cnt) (zn num) (zn i) x7 m = some (some (.int (zn (sp_cc T (V0 T) (gE G F) q.2.1 q.1 q.2.2.1 n bd1 day q.2.2.2 w r num cnt))), m') ∧ fqC m m' := by
  have hk : sc_k 85 := Or.inr (Or.inr (Or.inr (Or.inr rfl)))
  induction r with
  | zero =>
    intro i f num cnt x7 m h1 h2 h3 hb c
    obtain ⟨f, rfl⟩ : ∃ g, f = g + 1 := ⟨f - 1, by omega⟩
    refine ⟨m, ?_, fqC_refl m⟩
    rw [e_C_chance_35, br_leT (by omega) (by omega)]; rfl
  | succ r ih =>
    intro i f num cnt x7 m h1 h2 h3 hb c
    obtain ⟨f, rfl⟩ : ∃ g, f = g + 1 := ⟨f - 1, by omega⟩
    have hE := gE_evW c.gw c.gf
    have hw5 := hw_len c.qw.hw; have hn5 := c.tw.n; have hL := c.tw.L; have ol := c.qw.ol; have hdb := c.db
    obtain ⟨m1, a1, a2, a3, a4⟩ := s_copy hk (Or.inr (Or.inr (Or.inl rfl))) (by omega) c.tw c.sc (by omega) (by omega) c.qw.ml (d := d + 5)
    obtain ⟨s1, s2⟩ := a2.num (x := zn num)
    have fq1 : fqC m (am_w m1.1 85 11 (zn num), m1.2) := fqC_tr (a4.q (by omega)) (s2.q (by omega))
    have c1 := c.qC fq1
    have S := c.qw.sw c.tw (day := day + n) (by omega)
    obtain ⟨f', m2, b1, b0, b2, b3, b4⟩ := lp_ch1 c.tw.tw hE (d := d) (x1 := x1) (x3 := zn bd1) (x4 := zn cnt) (x5 := zn num) (x6 := zn i) hn n 0 f day num q.2.2.2 w (am_w m1.1 85 11 (zn num), m1.2) (by omega) (by omega) S (c1.tc.cx c.gw) s1 (by simp (disch := omega) only [w_ne, w_at, wl_ne, wl_at, wc_ne, wc_at, upd_at, upd_ne, upl_at, upl_ne, cpy_in0, zn_cl, zn_add, zn_mul, zn_sub, zn_pm, br_tt, br_ff, br_ltT, br_ltF, br_leT, br_leF, br_eqT, br_eqF, br_eqs, br_eqm, br_eqm', br_ltm, br_mlt, br_lem, br_mle, br_oiF, br_lgge, br_lgle, br_lggt, br_lglt, br_lgeq, br_zb, br_zb1, bV_s, bI_s, bL_s, zo_n, zo_s]) hb c.qw.hw
    have I' := it_hw (T := T) (V := V0 T) (E := gE G F) (U := q.2.1) (ord := q.1) S.ms n day num q.2.2.2 w c.qw.hw
    have nb' := it_lt (T := T) (V := V0 T) (E := gE G F) (U := q.2.1) (ord := q.1) (mt := q.2.2.1) n day num q.2.2.2 w hb
    have e1 := s_countOwn hk (d := d + 5) c.tw.n b2.n b2.dd I'
    have ole : sp_own (T 0 0) (sp_it T (V0 T) (gE G F) q.2.1 q.1 q.2.2.1 n day num q.2.2.2 w).2.1 ≤ T 0 0 := own_le
    have c2 := c1.qC (b4.q (by omega))
    have fq2 := fqC_tr fq1 (b4.q (by omega))
    rw [sp_cc, e_C_chance_35, br_leF (by omega) (by omega), a1, bV_s, b1, e_C_chance_65, br_leT (by omega) (by omega), e1, bI_s, b3, zn_add, zn_add]
    by_cases g : sp_own (T 0 0) (sp_it T (V0 T) (gE G F) q.2.1 q.1 q.2.2.1 n day num q.2.2.2 w).2.1 < bd1
    · obtain ⟨m', d1, d2⟩ := ih (i + 1) f' _ cnt (some (.int (zn n))) m2 (by omega) (by omega) (by omega) nb' c2
      rw [br_ltT g (by omega), if_pos g]
      exact ⟨m', d1, fqC_tr fq2 d2⟩
    · obtain ⟨m', d1, d2⟩ := ih (i + 1) f' _ (cnt + 1) (some (.int (zn n))) m2 (by omega) (by omega) (by omega) nb' c2
      rw [br_ltF (by omega) (by omega), if_neg g]
      exact ⟨m', d1, fqC_tr fq2 d2⟩
theorem lq_ch1 {T V : Td} {E : Ev} (W : tw T V) (hE : evW E) {U : Nat → Nat} {ord : List Nat} {mt : List (Nat × Nat)} {n d : Nat} {x1 x3 x6 x7 : Int32} {x4 : Int64} (hn : n ≤ 20) (r : Nat) :
    ∀ (j f day num : Nat) (h : Hs) (w : List Nat) (x9 : Option Value) (m : am_M), j + r = n → r < f → sw T ord U mt (day + r) → rx T V E m → rn 1 T ord U mt h w day m → m.2 107 58 = (zn num).toInt64 → num < 2147483648 → hwI (T 0 0) h w →
    ∃ f' x9' m', r_M_chance_62 (d + 6) f x1 (zn n) x3 x4 x6 x7 (zn j) x9 m = r_M_chance_62 (d + 6) (f' + 1) x1 (zn n) x3 x4 x6 x7 (zn n) x9' m' ∧ f ≤ f' + r + 1 ∧ rx T V E m' ∧ rn 1 T ord U mt (sp_it T V E U ord mt r day num h w).2.1 (sp_it T V E U ord mt r day num h w).2.2 (day + r) m' ∧ m'.2 107 58 = (zn (sp_it T V E U ord mt r day num h w).1).toInt64 ∧ fqN m m' := by
  induction r with
  | zero =>
    intro j f day num h w x9 m h1 h2 S c s hm hb I
    refine ⟨f - 1, x9, m, ?_, by omega, c, s, hm, fqN_refl m⟩
    rw [Nat.sub_add_cancel (by omega), show j = n from by omega]
  | succ r ih =>
    intro j f day num h w x9 m h1 h2 S c s hm hb I
    obtain ⟨f, rfl⟩ : ∃ g, f = g + 1 := ⟨f - 1, by omega⟩
    have S0 : sw T ord U mt day := ⟨S.ol, S.os, S.hu, S.ml, S.ms, by have := S.dy; omega⟩
    have S1 : sw T ord U mt (day + 1 + r) := ⟨S.ol, S.os, S.hu, S.ml, S.ms, by have := S.dy; omega⟩
    obtain ⟨m1, m2, a1, a2, a3, a4, a5, a6, a7, a8⟩ := s_dayR (b := 1) (by omega) W hE S0 c s hm hb I (d := d)
    obtain ⟨f', x9', m', b1, b0, bx, b2, b3, b4⟩ := ih (j + 1) f (day + 1) (sp_num T num) _ _ (some (.int (zb (sp_isf T num)))) m2 (by omega) (by omega) S1 a3 a4 a5 (num_lt hb) (dy_hw S.ms I)
    rw [show day + 1 + r = day + (r + 1) from by omega] at b2
    refine ⟨f', x9', m', ?_, by omega, bx, b2, b3, fqN_tr (a6.N a7 a8) b4⟩
    rw [e_M_chance_62, br_leF (by omega) (by omega), a1, bI_s, a2, bV_s, zn_add, b1]
theorem lq_ch {T G F : Td} {q : Sq} {w : List Nat} {day n bd1 d : Nat} {x1 : Int32} {x4 : Int64} (W : tW T) (gw : gW G F) (hE : evW (gE G F)) (Q : qW T w q) (hd : day ≤ 999) (hn : n ≤ 20) (hbd : bd1 ≤ 5) (r : Nat) :
    ∀ (i f num cnt : Nat) (x8 x9 : Option Value) (m : am_M), i + r = 10 → 100 * r < f → cnt ≤ i → num < 2147483648 → tR T G F m → nR T q.1 q.2.1 q.2.2.1 q.2.2.2 w day num m →
    ∃ m', r_M_chance_48 (d + 6) f x1 (zn n) (zn bd1) x4 (zn cnt) (zn i) x8 x9 m = some (some (.int (zn (sp_cc T (V0 T) (gE G F) q.2.1 q.1 q.2.2.1 n bd1 day q.2.2.2 w r num cnt))), m') ∧ fqN m m' ∧ m'.2 107 58 = x4 := by
  have hw5 := hw_len Q.hw; have hn5 := W.n; have hL := W.L
  induction r with
  | zero =>
    intro i f num cnt x8 x9 m h1 h2 h3 hb c s
    obtain ⟨f, rfl⟩ : ∃ g, f = g + 1 := ⟨f - 1, by omega⟩
    refine ⟨(m.1, am_wl m.2 107 58 x4), ?_, ⟨fun _ _ => rfl, fun _ _ => ⟨rfl, rfl, rfl⟩, rfl, rfl, fun _ _ => rfl, fun c hc => by simp (disch := omega) only [w_ne, w_at, wl_ne, wl_at, wc_ne, wc_at, upd_at, upd_ne, upl_at, upl_ne, cpy_in0, zn_cl, zn_add, zn_mul, zn_sub, zn_pm, br_tt, br_ff, br_ltT, br_ltF, br_leT, br_leF, br_eqT, br_eqF, br_eqs, br_eqm, br_eqm', br_ltm, br_mlt, br_lem, br_mle, br_oiF, br_lgge, br_lgle, br_lggt, br_lglt, br_lgeq, br_zb, br_zb1, bV_s, bI_s, bL_s, zo_n, zo_s], by simp (disch := omega) only [w_ne, w_at, wl_ne, wl_at, wc_ne, wc_at, upd_at, upd_ne, upl_at, upl_ne, cpy_in0, zn_cl, zn_add, zn_mul, zn_sub, zn_pm, br_tt, br_ff, br_ltT, br_ltF, br_leT, br_leF, br_eqT, br_eqF, br_eqs, br_eqm, br_eqm', br_ltm, br_mlt, br_lem, br_mle, br_oiF, br_lgge, br_lgle, br_lggt, br_lglt, br_lgeq, br_zb, br_zb1, bV_s, bI_s, bL_s, zo_n, zo_s]⟩, by simp (disch := omega) only [w_ne, w_at, wl_ne, wl_at, wc_ne, wc_at, upd_at, upd_ne, upl_at, upl_ne, cpy_in0, zn_cl, zn_add, zn_mul, zn_sub, zn_pm, br_tt, br_ff, br_ltT, br_ltF, br_leT, br_leF, br_eqT, br_eqF, br_eqs, br_eqm, br_eqm', br_ltm, br_mlt, br_lem, br_mle, br_oiF, br_lgge, br_lgle, br_lggt, br_lglt, br_lgeq, br_zb, br_zb1, bV_s, bI_s, bL_s, zo_n, zo_s]⟩
    rw [e_M_chance_48, br_leT (by omega) (by omega)]; rfl
  | succ r ih =>
    intro i f num cnt x8 x9 m h1 h2 h3 hb c s
    obtain ⟨f, rfl⟩ : ∃ g, f = g + 1 := ⟨f - 1, by omega⟩
    obtain ⟨m1, a1, a2, a3, a4⟩ := s_layT W c s (by omega) (fun l hl => by have := Q.om l hl; omega) (d := d + 4)
    have s1 := s.q (by omega) W a4
    have c1 := c.q a4
    have S := Q.sw W (day := day + n) (by omega)
    obtain ⟨f', x9', m2, b1, b0, bx, b2, b3, b4⟩ := lq_ch1 W.tw hE (d := d) (x1 := x1) (x3 := zn bd1) (x4 := x4) (x6 := zn cnt) (x7 := zn i) hn n 0 f day num q.2.2.2 w x9 m1 (by omega) (by omega) S (c1.rx a2 W gw) a3 s1.dr hb Q.hw
    have I' := it_hw (T := T) (V := V0 T) (E := gE G F) (U := q.2.1) (ord := q.1) S.ms n day num q.2.2.2 w Q.hw
    have nb' := it_lt (T := T) (V := V0 T) (E := gE G F) (U := q.2.1) (ord := q.1) (mt := q.2.2.1) n day num q.2.2.2 w hb
    have c2 := c1.N b4
    have s2 := s1.N (by omega) W b4 b3
    have e1 := s_ownIn (b := 1) (by omega) hn5 c2.n b2.hs I' (d := d + 5)
    have ole : sp_own (T 0 0) (sp_it T (V0 T) (gE G F) q.2.1 q.1 q.2.2.1 n day num q.2.2.2 w).2.1 ≤ T 0 0 := own_le
    rw [sp_cc, e_M_chance_48, br_leF (by omega) (by omega), a1, bV_s, b1, e_M_chance_62, br_leT (by omega) (by omega), e1, bI_s, zn_add, zn_add, zn_add, Nat.add_zero]
    by_cases g : sp_own (T 0 0) (sp_it T (V0 T) (gE G F) q.2.1 q.1 q.2.2.1 n day num q.2.2.2 w).2.1 < bd1
    · obtain ⟨m', d1, d2, d3⟩ := ih (i + 1) f' _ cnt (some (.int (zn n))) x9' m2 (by omega) (by omega) (by omega) nb' c2 s2
      rw [br_ltT g (by omega), if_pos g]
      exact ⟨m', d1, fqN_tr (fqN_tr a4.N b4) d2, d3⟩
    · obtain ⟨m', d1, d2, d3⟩ := ih (i + 1) f' _ (cnt + 1) (some (.int (zn n))) x9' m2 (by omega) (by omega) (by omega) nb' c2 s2
      rw [br_ltF (by omega) (by omega), if_neg g]
      exact ⟨m', d1, fqN_tr (fqN_tr a4.N b4) d2, d3⟩
theorem k_chance (x y z : Int32) : ask y_C_chance y_M_chance [.int x, .int y, .int z] := by
  refine ask_of fun T G F q w day num m c r => ?_
  have hE := gE_evW c.gw c.gf
  by_cases ok : (∃ s, s < 2147483648 ∧ x = zn s) ∧ isR (1 : Nat) (20 : Nat) y = true ∧ isR (0 : Nat) (5 : Nat) z = true
  · obtain ⟨⟨s, hs, rfl⟩, e2, e3⟩ := ok
    obtain ⟨n, n1, n2, rfl⟩ := isR_t e2
    obtain ⟨b, b1, b2, rfl⟩ := isR_t e3
    obtain ⟨m1, a1, a2⟩ := lp_ch (d := 1) (x1 := zn s) n2 b2 10 0 29999 s 0 none m (by omega) (by omega) (by omega) hs c
    refine ⟨some (.int (zn (sp_cc T (V0 T) (gE G F) q.2.1 q.1 q.2.2.1 n b day q.2.2.2 w 10 s 0))), m1, ?_, a2, fun c1 r1 => ?_⟩
    · rw [n_C_chance, br_ltF (by omega) (by omega), isR_eq (by omega) (by omega), if_pos e2, isR_le (by omega) (by omega), if_pos e3]
      exact a1
    · have c2 := c1.qR (fqR_th m1 (zn 0))
      have fz : fqN m1 (am_w m1.1 107 2 (zn 0), am_wl m1.2 107 58 (zn s).toInt64) := by
        have f := fqR_th m1 (zn 0)
        exact ⟨f.c, f.s, f.w, f.d, f.f, fun c hc => by simp (disch := omega) only [w_ne, w_at, wl_ne, wl_at, wc_ne, wc_at, upd_at, upd_ne, upl_at, upl_ne, cpy_in0, zn_cl, zn_add, zn_mul, zn_sub, zn_pm, br_tt, br_ff, br_ltT, br_ltF, br_leT, br_leF, br_eqT, br_eqF, br_eqs, br_eqm, br_eqm', br_ltm, br_mlt, br_lem, br_mle, br_oiF, br_lgge, br_lgle, br_lggt, br_lglt, br_lgeq, br_zb, br_zb1, bV_s, bI_s, bL_s, zo_n, zo_s], by simp (disch := omega) only [w_ne, w_at, wl_ne, wl_at, wc_ne, wc_at, upd_at, upd_ne, upl_at, upl_ne, cpy_in0, zn_cl, zn_add, zn_mul, zn_sub, zn_pm, br_tt, br_ff, br_ltT, br_ltF, br_leT, br_leF, br_eqT, br_eqF, br_eqs, br_eqm, br_eqm', br_ltm, br_mlt, br_lem, br_mle, br_oiF, br_lgge, br_lgle, br_lggt, br_lglt, br_lgeq, br_zb, br_zb1, bV_s, bI_s, bL_s, zo_n, zo_s]⟩
      have hw5 := hw_len c.qw.hw; have hn5 := c.tw.n
      obtain ⟨m2, d1, d2, d3⟩ := lq_ch (d := 1) (x1 := zn s) (x4 := m1.2 107 58) c.tw c.gw hE c.qw c.db n2 b2 10 0 29999 s 0 none none (am_w m1.1 107 2 (zn 0), am_wl m1.2 107 58 (zn s).toInt64) (by omega) (by omega) (by omega) hs (c1.tr.N fz) (c1.nr.N (by omega) c.tw fz (by simp (disch := omega) only [w_ne, w_at, wl_ne, wl_at, wc_ne, wc_at, upd_at, upd_ne, upl_at, upl_ne, cpy_in0, zn_cl, zn_add, zn_mul, zn_sub, zn_pm, br_tt, br_ff, br_ltT, br_ltF, br_leT, br_leF, br_eqT, br_eqF, br_eqs, br_eqm, br_eqm', br_ltm, br_mlt, br_lem, br_mle, br_oiF, br_lgge, br_lgle, br_lggt, br_lglt, br_lgeq, br_zb, br_zb1, bV_s, bI_s, bL_s, zo_n, zo_s]))
      refine ⟨m2, ?_, (fqN_tr fz d2).R d3⟩
      rw [n_M_chance, br_ltF (by omega) (by omega), s_isInN (by omega) (by omega), e2, bI_s, br_zb, if_pos rfl, s_isInN (by omega) (by omega), e3, bI_s, br_zb, if_pos rfl]
      exact d1
  · refine ⟨some (.int zm), m, ?_, fqC_refl m, fun c1 r1 => ⟨_, ?_, fqR_th m (zn 0)⟩⟩
    · rw [n_C_chance, isR_eq (by omega) (by omega), isR_le (by omega) (by omega)]
      rcases i32_cases x with ⟨a, ha, rfl⟩ | hx
      · rw [br_ltF (by omega) (by omega)]
        by_cases e2 : isR (1 : Nat) (20 : Nat) y = true
        · rw [if_pos e2, if_neg (fun e3 => ok ⟨⟨a, ha, rfl⟩, e2, e3⟩)]
        · rw [if_neg e2]
      · rw [br_lt, zn_i (by omega), if_pos (by omega)]
    · rw [n_M_chance, s_isInN (by omega) (by omega), bI_s, br_zb, s_isInN (by omega) (by omega), bI_s, br_zb]
      rcases i32_cases x with ⟨a, ha, rfl⟩ | hx
      · rw [br_ltF (by omega) (by omega)]
        by_cases e2 : isR (1 : Nat) (20 : Nat) y = true
        · rw [if_pos e2, if_neg (fun e3 => ok ⟨⟨a, ha, rfl⟩, e2, e3⟩)]
        · rw [if_neg e2]
      · rw [br_lt, zn_i (by omega), if_pos (by omega)]
