/-! days -/
theorem w_self (f : Nat → Nat → Int32) (a i : Nat) : am_w f a i (f a i) = f := by
  funext b j
  unfold am_w upd
  by_cases h : b = a
  · subst h; rw [if_pos rfl]
    by_cases e : j = i
    · subst e; rw [if_pos rfl]
    · rw [if_neg e]
  · rw [if_neg h]
theorem Rest.new {T : Td} {q q' : Sq} {w w' : List Nat} {m m' : am_M} (r : Rest T q w m) (e : ∀ c, c ≤ 4 ∨ 78 ≤ c ∧ c ≤ 84 ∨ 97 ≤ c ∧ c ≤ 100 ∨ c = 108 ∨ c = 109 ∨ c = 148 ∨ 154 ≤ c → m'.1 c = m.1 c) (e1 : ∀ i, i = 1 ∨ i = 4 ∨ i = 5 ∨ i = 78 ∨ i = 79 ∨ i = 87 ∨ i = 90 ∨ i = 91 → m'.1 107 i = m.1 107 i) (e2 : m'.2 107 92 = m.2 107 92) (d : dedI T w' q' m') : Rest T q' w' m' := by
  refine ⟨?_, ?_, ?_, ?_, ?_, d⟩
  · obtain ⟨t, X, h⟩ := r.ta
    exact ⟨t, X, h.t, h.x, by rw [e 0 (by omega)]; exact h.c, by rw [e 3 (by omega)]; exact h.cb, by rw [e1 1 (by omega)]; exact h.r, by rw [e 108 (by omega)]; exact h.rb⟩
  · have := r.fa
    unfold fltI at this ⊢
    rw [e1 4 (by omega), e1 5 (by omega), e 0 (by omega)]; exact this
  · have := r.cs
    unfold cstI at this ⊢
    rw [e 4 (by omega), e 109 (by omega)]; exact this
  · have := r.im
    unfold imgI at this ⊢
    rw [e 0 (by omega), e1 87 (by omega)]
    rcases this with h | ⟨h1, h2, q, w, day, num, h3⟩
    · exact Or.inl h
    · exact Or.inr ⟨h1, h2, q, w, day, num, h3.qw, h3.nb, h3.db, h3.c.mono (fun c _ _ => e c (by omega)), by rw [e 78 (by omega)]; exact h3.cn, h3.r.mono (e 154 (by omega)), by rw [e 155 (by omega)]; exact h3.rw, by rw [e1 90 (by omega)]; exact h3.rl, by rw [e1 91 (by omega)]; exact h3.rd, by rw [e2]; exact h3.rn⟩
  · obtain ⟨n, o, S, h⟩ := r.se
    exact ⟨n, o, S, h.n, h.o, h.w0, h.w1, by rw [e 97 (by omega)]; exact h.cn, by rw [e 97 (by omega)]; exact h.co, by rw [e 98 (by omega)]; exact h.c0, by rw [e 100 (by omega)]; exact h.c1, by rw [e 99 (by omega), e 100 (by omega)]; exact h.c2, by rw [e1 78 (by omega)]; exact h.rn, by rw [e1 79 (by omega)]; exact h.ro, by rw [e 148 (by omega)]; exact h.r1, by rw [e 148 (by omega)]; exact h.r2⟩
theorem ded0 {T : Td} {w : List Nat} {q : Sq} {m : am_M} (h : qW T w q) (c : m.1 102 4 = zn 0) (r : m.1 107 85 = zn 0) : dedI T w q m := ⟨0, fun _ _ => 0, fun _ => q, by omega, rfl, fun _ _ => h, fun k hk => by omega, fun k hk => by omega, c, fun k hk => by omega, r, fun k hk => by omega⟩
theorem lp_days {T V : Td} {E : Ev} (W : tw T V) (hE : evW E) {U : Nat → Nat} {ord : List Nat} {mt : List (Nat × Nat)} {n d : Nat} (hn : n ≤ 50) (r : Nat) :
    ∀ (i f day num : Nat) (h : Hs) (w : List Nat) (m : am_M), i + r = n → r < f → sw T ord U mt (day + r) → cx T V E m → sn 71 T ord U mt h w day m → m.1 71 11 = zn num → num < 2147483648 → hwI (T 0 0) h w →
    ∃ m', r_C_days_29 (d + 6) f (zn n) (zn i) m = (if n = 0 then some (some (.int (zn (day + r))), m') else some (some (.int (zn (day + r))), (am_w m'.1 102 4 (zn 0), m'.2))) ∧ sn 71 T ord U mt (sp_it T V E U ord mt r day num h w).2.1 (sp_it T V E U ord mt r day num h w).2.2 (day + r) m' ∧ m'.1 71 11 = zn (sp_it T V E U ord mt r day num h w).1 ∧ fdn 71 m m' := by
  have hk : sc_k 71 := Or.inr (Or.inr (Or.inl rfl))
  induction r with
  | zero =>
    intro i f day num h w m h1 h2 S c s hm hb I
    obtain ⟨f, rfl⟩ : ∃ g, f = g + 1 := ⟨f - 1, by omega⟩
    refine ⟨m, ?_, s, hm, fdn_refl 71 m⟩
    rw [e_C_days_29, br_leT (by omega) (by omega)]
    by_cases e : n = 0
    · rw [if_pos e, br_leT (by omega) (by omega), s.dy]; rfl
    · rw [if_neg e, br_leF (by omega) (by omega), n_Deeds_clear, bV_s]
      simp (disch := omega) only [w_ne, w_at, wl_ne, wl_at, wc_ne, wc_at, upd_at, upd_ne, upl_at, upl_ne, cpy_in0, zn_cl, zn_add, zn_mul, zn_sub, zn_pm, br_tt, br_ff, br_ltT, br_ltF, br_leT, br_leF, br_eqT, br_eqF, br_eqs, br_eqm, br_eqm', br_ltm, br_mlt, br_lem, br_mle, br_oiF, br_lgge, br_lgle, br_lggt, br_lglt, br_lgeq, br_zb, br_zb1, bV_s, bI_s, bL_s, zo_n, zo_s, s.dy, Nat.add_zero]
  | succ r ih =>
    intro i f day num h w m h1 h2 S c s hm hb I
    obtain ⟨f, rfl⟩ : ∃ g, f = g + 1 := ⟨f - 1, by omega⟩
    have S0 : sw T ord U mt day := ⟨S.ol, S.os, S.hu, S.ml, S.ms, by have := S.dy; omega⟩
    have S1 : sw T ord U mt (day + 1 + r) := ⟨S.ol, S.os, S.hu, S.ml, S.ms, by have := S.dy; omega⟩
    obtain ⟨m1, a1, a2, a3, a4⟩ := s_passN hk W hE S0 c s hm hb I (d := d)
    obtain ⟨m', b1, b2, b3, b4⟩ := ih (i + 1) f (day + 1) (sp_num T num) _ _ m1 (by omega) (by omega) S1 (c.fn hk a4) a2 a3 (num_lt hb) (dy_hw S.ms I)
    rw [show day + 1 + r = day + (r + 1) from by omega] at b1 b2
    refine ⟨m', ?_, b2, b3, fdn_tr a4 b4⟩
    rw [e_C_days_29, br_leF (by omega) (by omega), a1, bV_s, zn_add, b1]
/-- at most a day of side 0 and the last number -/
def fr0 (m m' : am_M) : Prop := (∀ c, c ≠ 107 → c ≠ 130 → c ≠ 131 → c ≠ 141 → m'.2 c = m.2 c) ∧ (∀ i, i ≠ 58 → m'.2 107 i = m.2 107 i) ∧ (∀ c, c ≠ 107 → c ≠ 132 → c ≠ 133 → c ≠ 134 → c ≠ 135 → m'.1 c = m.1 c) ∧ ∀ i, i ≠ 48 → m'.1 107 i = m.1 107 i
theorem fr0_tr {m m1 m2 : am_M} (h : fr0 m m1) (g : fr0 m1 m2) : fr0 m m2 := ⟨fun c a b e f => (g.1 c a b e f).trans (h.1 c a b e f), fun i e => (g.2.1 i e).trans (h.2.1 i e), fun c a b e f k => (g.2.2.1 c a b e f k).trans (h.2.2.1 c a b e f k), fun i e => (g.2.2.2 i e).trans (h.2.2.2 i e)⟩
theorem fr0_refl (m : am_M) : fr0 m m := ⟨fun _ _ _ _ _ => rfl, fun _ _ => rfl, fun _ _ _ _ _ _ => rfl, fun _ _ => rfl⟩
theorem fry.r0 {b : Nat} {m m' : am_M} (f : fry b m m') : fr0 m m' := ⟨fun c _ c2 c3 c4 => f.1 c c2 c3 c4, fun i _ => by rw [f.1 107 (by omega) (by omega) (by omega)], f.2.1, f.2.2.1⟩
/-- one day of the reference by numbers -/
theorem s_dayR {b : Nat} (hb1 : b < 2) {T V : Td} {E : Ev} (W : tw T V) (hE : evW E) {ord : List Nat} {U : Nat → Nat} {mt : List (Nat × Nat)} {day num d : Nat} {h : Hs} {w : List Nat} {m : am_M} (S : sw T ord U mt day) (c : rx T V E m) (s : rn b T ord U mt h w day m) (hn : m.2 107 58 = (zn num).toInt64) (hb : num < 2147483648) (I : hwI (T 0 0) h w) :
    ∃ m1 m', am_c (d + 6) y_M_isFog [.ref 107] m = some (some (.int (zb (sp_isf T num))), m1) ∧ am_c (d + 6) y_M_goOn [.ref 107, .int (zn b), .int (zb (sp_isf T num))] m1 = some (none, m') ∧ rx T V E m' ∧ rn b T ord U mt (sp_dy T V E U ord mt day num h w).1 (sp_dy T V E U ord mt day num h w).2 (day + 1) m' ∧ m'.2 107 58 = (zn (sp_num T num)).toInt64 ∧ fr0 m m' ∧ (∀ i, i < 5 * b ∨ 5 * b + 5 ≤ i → m'.1 132 i = m.1 132 i ∧ m'.1 133 i = m.1 133 i) ∧ ∀ i, i ≠ b → m'.1 134 i = m.1 134 i ∧ m'.1 135 i = m.1 135 i := by
  obtain ⟨m1, a1, a2, a3, a4, a5⟩ := s_isFog W c hn hb (d := d + 4)
  have c1 := c.same a2
  have s1 := s.same a2
  have f1 : fr0 m m1 := ⟨fun c c1 _ _ _ => a3 c c1, a4, fun c _ _ _ _ _ => by rw [a2], fun i _ => by rw [a2]⟩
  unfold sp_dy
  cases e : sp_isf T num with
  | true =>
    obtain ⟨m2, b1, b2, b3⟩ := s_goOnFog hb1 W hE S c1 s1 I (d := d)
    rw [e] at a1
    refine ⟨m1, m2, a1, b1, c1.fy b3, b2, by rw [b3.1 107 (by omega) (by omega) (by omega)]; exact a5, fr0_tr f1 b3.r0, fun i hi => ?_, fun i hi => ?_⟩
    · rw [← a2]; exact b3.2.2.2.1 i hi
    · rw [← a2]; exact b3.2.2.2.2 i hi
  | false =>
    obtain ⟨m2, b1, b2, b3⟩ := s_goOn hb1 W hE S c1 s1 I (d := d)
    rw [e] at a1
    refine ⟨m1, m2, a1, b1, c1.fy b3, b2, by rw [b3.1 107 (by omega) (by omega) (by omega)]; exact a5, fr0_tr f1 b3.r0, fun i hi => ?_, fun i hi => ?_⟩
    · rw [← a2]; exact b3.2.2.2.1 i hi
    · rw [← a2]; exact b3.2.2.2.2 i hi
theorem lq_days {T V : Td} {E : Ev} (W : tw T V) (hE : evW E) {U : Nat → Nat} {ord : List Nat} {mt : List (Nat × Nat)} {n d : Nat} (hn : n ≤ 50) (r : Nat) :
    ∀ (i f day num : Nat) (h : Hs) (w : List Nat) (x3 : Option Value) (m : am_M), i + r = n → r < f → sw T ord U mt (day + r) → rx T V E m → rn 0 T ord U mt h w day m → m.2 107 58 = (zn num).toInt64 → num < 2147483648 → hwI (T 0 0) h w →
    ∃ m', r_M_days_37 (d + 6) f (zn n) (zn i) x3 m = (if n = 0 then some (some (.int (zn (day + r))), m') else some (some (.int (zn (day + r))), (am_w m'.1 107 85 (zn 0), m'.2))) ∧ rn 0 T ord U mt (sp_it T V E U ord mt r day num h w).2.1 (sp_it T V E U ord mt r day num h w).2.2 (day + r) m' ∧ m'.2 107 58 = (zn (sp_it T V E U ord mt r day num h w).1).toInt64 ∧ fr0 m m' := by
  induction r with
  | zero =>
    intro i f day num h w x3 m h1 h2 S c s hm hb I
    obtain ⟨f, rfl⟩ : ∃ g, f = g + 1 := ⟨f - 1, by omega⟩
    refine ⟨m, ?_, s, hm, fr0_refl m⟩
    rw [e_M_days_37, br_leT (by omega) (by omega), s.dy]
    by_cases e : n = 0
    · rw [if_pos e, br_leT (by omega) (by omega), w_self]; rfl
    · rw [if_neg e, br_leF (by omega) (by omega)]; rfl
  | succ r ih =>
    intro i f day num h w x3 m h1 h2 S c s hm hb I
    obtain ⟨f, rfl⟩ : ∃ g, f = g + 1 := ⟨f - 1, by omega⟩
    have S0 : sw T ord U mt day := ⟨S.ol, S.os, S.hu, S.ml, S.ms, by have := S.dy; omega⟩
    have S1 : sw T ord U mt (day + 1 + r) := ⟨S.ol, S.os, S.hu, S.ml, S.ms, by have := S.dy; omega⟩
    obtain ⟨m1, m2, a1, a2, a3, a4, a5, a6, a7, a8⟩ := s_dayR (b := 0) (by omega) W hE S0 c s hm hb I (d := d)
    obtain ⟨m', b1, b2, b3, b4⟩ := ih (i + 1) f (day + 1) (sp_num T num) _ _ (some (.int (zb (sp_isf T num)))) m2 (by omega) (by omega) S1 a3 a4 a5 (num_lt hb) (dy_hw S.ms I)
    rw [show day + 1 + r = day + (r + 1) from by omega] at b1 b2
    refine ⟨m', ?_, b2, b3, fr0_tr a6 b4⟩
    rw [e_M_days_37, br_leF (by omega) (by omega), a1, bI_s, a2, bV_s, zn_add, b1]
theorem k_days (x : Int32) : ask y_C_days y_M_days [.int x] := by
  intro m ⟨T, G, F, q, w, day, num, c, r⟩
  have hE := gE_evW c.gw c.gf
  have hw5 := hw_len c.qw.hw; have hn5 := c.tw.n; have hL := c.tw.L; have ol := c.qw.ol; have hdb := c.db
  have cth := c.qR (fqR_th m (zn 0))
  have bad : ∀ (e : (isR (0 : Nat) (50 : Nat) x = true ∧ day + x.toInt ≤ 999) → False), ∃ r m1 m2, am_c 8 y_C_days [.ref 0, .int x] m = some (r, m1) ∧ am_c 8 y_M_days [.ref 107, .int x] m1 = some (r, m2) ∧ Inv m2 := by
    intro e
    refine ⟨some (.int zm), m, (am_w m.1 107 2 (zn 0), m.2), ?_, ?_, T, G, F, q, w, day, num, cth, r.qR (fqR_th m (zn 0))⟩
    · rw [n_C_days, isR_eq (by omega) (by omega)]
      by_cases e1 : isR (0 : Nat) (50 : Nat) x = true
      · obtain ⟨n, _, n2, rfl⟩ := isR_t e1
        rw [if_pos e1, c.sc.dy, zn_add, br_leF (by rcases Nat.lt_or_ge 999 (day + n) with g | g
                                                   · exact g
                                                   · exact absurd ⟨e1, by rw [zn_i (by omega)]; omega⟩ e) (by omega)]
      · rw [if_neg e1]
    · rw [n_M_days, s_isInN (by omega) (by omega), bI_s, br_zb]
      by_cases e1 : isR (0 : Nat) (50 : Nat) x = true
      · obtain ⟨n, _, n2, rfl⟩ := isR_t e1
        rw [if_pos e1, cth.nr.dy, zn_add, br_leF (by rcases Nat.lt_or_ge 999 (day + n) with g | g
                                                     · exact g
                                                     · exact absurd ⟨e1, by rw [zn_i (by omega)]; omega⟩ e) (by omega)]
      · rw [if_neg e1]
  by_cases ok : isR (0 : Nat) (50 : Nat) x = true ∧ day + x.toInt ≤ 999
  · obtain ⟨e1, e2⟩ := ok
    obtain ⟨n, _, n2, rfl⟩ := isR_t e1
    rw [zn_i (by omega)] at e2
    have S := c.qw.sw c.tw (day := day + n) (by omega)
    obtain ⟨m1, a1, a2, a3, a4⟩ := lp_days c.tw.tw hE (d := 1) n2 n 0 29999 day num q.2.2.2 w m (by omega) (by omega) S (c.tc.cx c.gw) c.sc c.nc c.nb c.qw.hw
    have I' := it_hw (T := T) (V := V0 T) (E := gE G F) (U := q.2.1) (ord := q.1) S.ms n day num q.2.2.2 w c.qw.hw
    have nb' := it_lt (T := T) (V := V0 T) (E := gE G F) (U := q.2.1) (ord := q.1) (mt := q.2.2.1) n day num q.2.2.2 w c.nb
    -- what the class leaves
    obtain ⟨m1', hm1, hm2, hm3⟩ : ∃ m1', am_c 8 y_C_days [.ref 0, .int (zn n)] m = some (some (.int (zn (day + n))), m1') ∧ (∀ c, c ≠ 102 → m1'.1 c = m1.1 c) ∧ m1'.2 = m1.2 ∧ (n = 0 → m1' = m1) ∧ (n ≠ 0 → m1'.1 102 4 = zn 0) := by
      rw [n_C_days, isR_eq (by omega) (by omega), if_pos e1, c.sc.dy, zn_add, br_leT (by omega) (by omega), a1]
      by_cases g : n = 0
      · rw [if_pos g]; exact ⟨m1, rfl, fun _ _ => rfl, rfl, fun _ => rfl, fun h => absurd g h⟩
      · rw [if_neg g]; exact ⟨_, rfl, fun c hc => by simp (disch := omega) only [w_ne, w_at, wl_ne, wl_at, wc_ne, wc_at, upd_at, upd_ne, upl_at, upl_ne, cpy_in0, zn_cl, zn_add, zn_mul, zn_sub, zn_pm, br_tt, br_ff, br_ltT, br_ltF, br_leT, br_leF, br_eqT, br_eqF, br_eqs, br_eqm, br_eqm', br_ltm, br_mlt, br_lem, br_mle, br_oiF, br_lgge, br_lgle, br_lggt, br_lglt, br_lgeq, br_zb, br_zb1, bV_s, bI_s, bL_s, zo_n, zo_s], rfl, fun h => absurd h g, fun _ => by simp (disch := omega) only [w_ne, w_at, wl_ne, wl_at, wc_ne, wc_at, upd_at, upd_ne, upl_at, upl_ne, cpy_in0, zn_cl, zn_add, zn_mul, zn_sub, zn_pm, br_tt, br_ff, br_ltT, br_ltF, br_leT, br_leF, br_eqT, br_eqF, br_eqs, br_eqm, br_eqm', br_ltm, br_mlt, br_lem, br_mle, br_oiF, br_lgge, br_lgle, br_lggt, br_lglt, br_lgeq, br_zb, br_zb1, bV_s, bI_s, bL_s, zo_n, zo_s]⟩
    have eC : ∀ c, c ≠ 71 → c ≠ 72 → c ≠ 73 → c ≠ 102 → m1'.1 c = m.1 c := fun c c1 c2 c3 c4 => by rw [hm2 c c4, a4.2 c c1 c2 c3]
    have eL : ∀ c, 107 ≤ c → m1'.2 c = m.2 c := fun c hc => by rw [hm3.1, a4.1 c (by omega) (by omega) (by omega) (by omega)]
    have tr1 : tR T G F m1' := c.tr.mono (fun q _ _ => eC q (by omega) (by omega) (by omega) (by omega)) (fun i _ _ => by rw [eC 107 (by omega) (by omega) (by omega) (by omega)])
    have nr1 : nR T q.1 q.2.1 q.2.2.1 q.2.2.2 w day num m1' := c.nr.mono (by omega) hL hn5 (fun i _ => by rw [eC 132 (by omega) (by omega) (by omega) (by omega), eC 133 (by omega) (by omega) (by omega) (by omega), eC 137 (by omega) (by omega) (by omega) (by omega)]; exact ⟨rfl, rfl, rfl⟩) (by rw [eC 134 (by omega) (by omega) (by omega) (by omega)]) (by rw [eC 135 (by omega) (by omega) (by omega) (by omega)]) (eC 136 (by omega) (by omega) (by omega) (by omega)) (eC 138 (by omega) (by omega) (by omega) (by omega)) (eC 139 (by omega) (by omega) (by omega) (by omega)) (by rw [eC 107 (by omega) (by omega) (by omega) (by omega)]) (by rw [eL 107 (by omega)])
    have f1 := fqR_th m1' (zn 0)
    have tr2 := tr1.q f1
    have nr2 := nr1.q (by omega) c.tw f1
    obtain ⟨m2, b1, b2, b3⟩ := s_plainT tr2 c.tw nr2.os (d := 6)
    have nr3 := nr2.q (by omega) c.tw b3.q
    have rn0 := nr3.rn0 b2 (fun l hl => by have := c.qw.om l hl; omega) hL
    obtain ⟨m3, d1, d2, d3, d4⟩ := lq_days c.tw.tw hE (d := 1) n2 n 0 29999 day num q.2.2.2 w none m2 (by omega) (by omega) S ((tr2.q b3.q).rx b2 c.tw c.gw) rn0 nr3.dr c.nb c.qw.hw
    obtain ⟨m3', hn1, hn2, hn3⟩ : ∃ m3', am_c 8 y_M_days [.ref 107, .int (zn n)] m1' = some (some (.int (zn (day + n))), m3') ∧ (∀ c, c ≠ 107 → m3'.1 c = m3.1 c) ∧ m3'.2 = m3.2 ∧ (∀ i, i ≠ 85 → m3'.1 107 i = m3.1 107 i) ∧ (n = 0 → m3' = m3) ∧ (n ≠ 0 → m3'.1 107 85 = zn 0) := by
      rw [n_M_days, s_isInN (by omega) (by omega), bI_s, br_zb, if_pos e1, nr2.dy, zn_add, br_leT (by omega) (by omega), b1, bV_s, d1]
      by_cases g : n = 0
      · rw [if_pos g]; exact ⟨m3, rfl, fun _ _ => rfl, rfl, fun _ _ => rfl, fun _ => rfl, fun h => absurd g h⟩
      · rw [if_neg g]; exact ⟨_, rfl, fun c hc => by simp (disch := omega) only [w_ne, w_at, wl_ne, wl_at, wc_ne, wc_at, upd_at, upd_ne, upl_at, upl_ne, cpy_in0, zn_cl, zn_add, zn_mul, zn_sub, zn_pm, br_tt, br_ff, br_ltT, br_ltF, br_leT, br_leF, br_eqT, br_eqF, br_eqs, br_eqm, br_eqm', br_ltm, br_mlt, br_lem, br_mle, br_oiF, br_lgge, br_lgle, br_lggt, br_lglt, br_lgeq, br_zb, br_zb1, bV_s, bI_s, bL_s, zo_n, zo_s], rfl, fun i hi => by simp (disch := omega) only [w_ne, w_at, wl_ne, wl_at, wc_ne, wc_at, upd_at, upd_ne, upl_at, upl_ne, cpy_in0, zn_cl, zn_add, zn_mul, zn_sub, zn_pm, br_tt, br_ff, br_ltT, br_ltF, br_leT, br_leF, br_eqT, br_eqF, br_eqs, br_eqm, br_eqm', br_ltm, br_mlt, br_lem, br_mle, br_oiF, br_lgge, br_lgle, br_lggt, br_lglt, br_lgeq, br_zb, br_zb1, bV_s, bI_s, bL_s, zo_n, zo_s], fun h => absurd h g, fun _ => by simp (disch := omega) only [w_ne, w_at, wl_ne, wl_at, wc_ne, wc_at, upd_at, upd_ne, upl_at, upl_ne, cpy_in0, zn_cl, zn_add, zn_mul, zn_sub, zn_pm, br_tt, br_ff, br_ltT, br_ltF, br_leT, br_leF, br_eqT, br_eqF, br_eqs, br_eqm, br_eqm', br_ltm, br_mlt, br_lem, br_mle, br_oiF, br_lgge, br_lgle, br_lggt, br_lglt, br_lgeq, br_zb, br_zb1, bV_s, bI_s, bL_s, zo_n, zo_s]⟩
    have gI : ∀ c, c ≠ 107 → c ≠ 132 → c ≠ 133 → c ≠ 134 → c ≠ 135 → c ≠ 137 → c ≠ 140 → m3'.1 c = m1'.1 c := fun c c1 c2 c3 c4 c5 c6 c7 => by
      rw [hn2 c c1, d4.2.2.1 c c1 c2 c3 c4 c5, b3.2.1 c c1 c6 c7]; simp (disch := omega) only [w_ne, w_at, wl_ne, wl_at, wc_ne, wc_at, upd_at, upd_ne, upl_at, upl_ne, cpy_in0, zn_cl, zn_add, zn_mul, zn_sub, zn_pm, br_tt, br_ff, br_ltT, br_ltF, br_leT, br_leF, br_eqT, br_eqF, br_eqs, br_eqm, br_eqm', br_ltm, br_mlt, br_lem, br_mle, br_oiF, br_lgge, br_lgle, br_lggt, br_lglt, br_lgeq, br_zb, br_zb1, bV_s, bI_s, bL_s, zo_n, zo_s]
    have g107 : ∀ i, i ≠ 85 → i ≠ 48 → i ≠ 2 → (i < 59 ∨ 66 < i) → m3'.1 107 i = m1'.1 107 i := fun i i1 i2 i3 i4 => by
      rw [hn3.2.1 i i1, d4.2.2.2 i i2, b3.2.2.1 i i4]; simp (disch := omega) only [w_ne, w_at, wl_ne, wl_at, wc_ne, wc_at, upd_at, upd_ne, upl_at, upl_ne, cpy_in0, zn_cl, zn_add, zn_mul, zn_sub, zn_pm, br_tt, br_ff, br_ltT, br_ltF, br_leT, br_leF, br_eqT, br_eqF, br_eqs, br_eqm, br_eqm', br_ltm, br_mlt, br_lem, br_mle, br_oiF, br_lgge, br_lgle, br_lggt, br_lglt, br_lgeq, br_zb, br_zb1, bV_s, bI_s, bL_s, zo_n, zo_s]
    have gL : ∀ i, i ≠ 58 → m3'.2 107 i = m1'.2 107 i := fun i hi => by rw [hn3.1, d4.2.1 i hi, b3.1]
    refine ⟨_, m1', m3', hm1, hn1, T, G, F, (q.1, q.2.1, q.2.2.1, (sp_it T (V0 T) (gE G F) q.2.1 q.1 q.2.2.1 n day num q.2.2.2 w).2.1), (sp_it T (V0 T) (gE G F) q.2.1 q.1 q.2.2.1 n day num q.2.2.2 w).2.2, day + n, (sp_it T (V0 T) (gE G F) q.2.1 q.1 q.2.2.1 n day num q.2.2.2 w).1, ?_, ?_⟩
    · refine ⟨c.tc.mono (fun p p1 p2 => by rw [gI p (by omega) (by omega) (by omega) (by omega) (by omega) (by omega) (by omega), eC p (by omega) (by omega) (by omega) (by omega)]), tr1.mono (fun p p1 p2 => gI p (by omega) (by omega) (by omega) (by omega) (by omega) (by omega) (by omega)) (fun i i1 i2 => g107 i (by omega) (by omega) (by omega) (by omega)), c.tw, c.gw, c.gf, ?_, ?_, ?_, ⟨c.qw.ol, c.qw.om, c.qw.oa, c.qw.nd, c.qw.hu, c.qw.ml, c.qw.ms, I'⟩, nb', by omega⟩
      · exact a2.mono (fun p p1 p2 => by rw [gI p (by omega) (by omega) (by omega) (by omega) (by omega) (by omega) (by omega), hm2 p (by omega)])
      · rw [gI 71 (by omega) (by omega) (by omega) (by omega) (by omega) (by omega) (by omega), hm2 71 (by omega)]; exact a3
      · refine ⟨?_, ?_, ?_, ?_, ?_, c.nr.ol, ?_, ?_, ?_, ?_, ?_⟩
        · intro i hi; rw [hn2 132 (by omega)]; have := d2.hs i hi; rw [Nat.mul_zero, Nat.zero_add] at this; exact this
        · intro i i1 i2; rw [hn2 132 (by omega)]; have := d2.h5 i i1 i2; rw [Nat.mul_zero, Nat.zero_add] at this; exact this
        · rw [hn2 134 (by omega)]; exact d2.wl
        · intro i hi; rw [hn2 133 (by omega)]; have := d2.ws i hi; rw [Nat.mul_zero, Nat.zero_add] at this; exact this
        · rw [hn2 135 (by omega)]; exact d2.dy
        · intro i hi; rw [hn2 137 (by omega), d4.2.2.1 137 (by omega) (by omega) (by omega) (by omega) (by omega)]; exact nr3.os i hi
        · intro l hl; rw [gI 136 (by omega) (by omega) (by omega) (by omega) (by omega) (by omega) (by omega)]; exact nr1.hu l hl
        · rw [g107 55 (by omega) (by omega) (by omega) (by omega)]; exact nr1.ml
        · rw [gI 138 (by omega) (by omega) (by omega) (by omega) (by omega) (by omega) (by omega), gI 139 (by omega) (by omega) (by omega) (by omega) (by omega) (by omega) (by omega)]; exact nr1.ms
        · rw [hn3.1]; exact d3
    · have qw' : qW T (sp_it T (V0 T) (gE G F) q.2.1 q.1 q.2.2.1 n day num q.2.2.2 w).2.2 (q.1, q.2.1, q.2.2.1, (sp_it T (V0 T) (gE G F) q.2.1 q.1 q.2.2.1 n day num q.2.2.2 w).2.1) := ⟨c.qw.ol, c.qw.om, c.qw.oa, c.qw.nd, c.qw.hu, c.qw.ml, c.qw.ms, I'⟩
      refine r.new (fun p hp => by rw [gI p (by omega) (by omega) (by omega) (by omega) (by omega) (by omega) (by omega), eC p (by omega) (by omega) (by omega) (by omega)]) (fun i hi => by rw [g107 i (by omega) (by omega) (by omega) (by omega), eC 107 (by omega) (by omega) (by omega) (by omega)]) (by rw [gL 92 (by omega), eL 107 (by omega)]) ?_
      by_cases g : n = 0
      · subst g
        obtain ⟨dn, D, H, h⟩ := r.de
        have e102 : ∀ p, 102 ≤ p → p ≤ 106 → m3'.1 p = m.1 p := fun p p1 p2 => by rw [gI p (by omega) (by omega) (by omega) (by omega) (by omega) (by omega) (by omega), hm3.2.1 rfl, a4.2 p (by omega) (by omega) (by omega)]
        have e85 : m3'.1 107 85 = m.1 107 85 := by
          rw [hn3.2.2.1 rfl, d4.2.2.2 85 (by omega), b3.2.2.1 85 (by omega)]
          simp (disch := omega) only [w_ne, w_at, wl_ne, wl_at, wc_ne, wc_at, upd_at, upd_ne, upl_at, upl_ne, cpy_in0, zn_cl, zn_add, zn_mul, zn_sub, zn_pm, br_tt, br_ff, br_ltT, br_ltF, br_leT, br_leF, br_eqT, br_eqF, br_eqs, br_eqm, br_eqm', br_ltm, br_mlt, br_lem, br_mle, br_oiF, br_lgge, br_lgle, br_lggt, br_lglt, br_lgeq, br_zb, br_zb1, bV_s, bI_s, bL_s, zo_n, zo_s]
          rw [eC 107 (by omega) (by omega) (by omega) (by omega)]
        exact ⟨dn, D, H, h.n, h.hn, h.hw, h.un, h.wf, by rw [e102 102 (by omega) (by omega)]; exact h.cn, by rw [e102 103 (by omega) (by omega), e102 104 (by omega) (by omega), e102 105 (by omega) (by omega), e102 106 (by omega) (by omega)]; exact h.ck, by rw [e85]; exact h.rn, fun k hk => (h.rk k hk).mono (by rw [gI 153 (by omega) (by omega) (by omega) (by omega) (by omega) (by omega) (by omega), eC 153 (by omega) (by omega) (by omega) (by omega)])⟩
      · exact ded0 qw' (by rw [gI 102 (by omega) (by omega) (by omega) (by omega) (by omega) (by omega) (by omega)]; exact hm3.2.2 g) (hn3.2.2.2 g)
  · exact bad ok
