/-! price, season -/
def sp_pr (T V : Td) (E : Ev) (day : Nat) (h : Hs) (t : Nat) : Int32 := match sp_wor T V E day h 2 t with
  | none => zn (sp_szo T (h t))
  | some v => if v < 0 then zn 0 else if 999 < v then zn 999 else v.toInt32
theorem clampC (v : Int64) : (am_lmax 0 (am_lmin 999 v)).toInt32 = if v < 0 then zn 0 else if 999 < v then zn 999 else v.toInt32 := by
  have l9 : (999 : Int64).toInt = 999 := rfl
  unfold am_lmax am_lmin
  by_cases h1 : v < 0
  · have h2 : v < 999 := by rw [Int64.lt_iff_toInt_lt] at h1 ⊢; rw [l9]; rw [l0] at h1; omega
    rw [if_pos h2, if_pos h1, if_pos h1]; rfl
  · by_cases h2 : 999 < v
    · have h3 : ¬ v < 999 := by rw [Int64.lt_iff_toInt_lt] at h2 ⊢; omega
      rw [if_neg h3, if_neg h1, if_pos h2]; rfl
    · rw [if_neg h1, if_neg h2]
      by_cases h3 : v < 999
      · rw [if_pos h3, if_neg h1]
      · rw [if_neg h3]
        have : v = 999 := by
          apply Int64.toInt_inj.mp
          rw [Int64.lt_iff_toInt_lt] at h2 h3; rw [l9] at h2 h3 ⊢; omega
        rw [this]; rfl
theorem s_priceC {k : Nat} (hk : sc_k k) {T V : Td} {E : Ev} {m : am_M} (W : tw T V) (hE : evW E) (c : cx T V E m) {h : Hs} {day : Nat} (hh : ∀ i, i < T 0 0 → m.1 (k + 1) i = zo (h i)) (hb : ∀ i s, i < T 0 0 → h i = some s → s < T 0 0) (hd : m.1 k 10 = zn day) {d t : Nat} (ht : t < T 0 0) :
    ∃ m', am_c (d + 4) y_Day_priceOf [.ref 26, .ref k, .int (zn t)] m = some (some (.int (sp_pr T V E day h t)), m') ∧ fdl m m' := by
  have := W.n
  obtain ⟨m1, a1, a2⟩ := s_worth hk W hE c hh hb hd (d := d) (t := t) (l := 2) ht (by omega)
  have e3 := s_sizeOf W (c.same a2.1) (d := d + 2) (o := h t) (fun s e => hb t s ht e)
  have hh1 : m1.1 (k + 1) t = zo (h t) := by rw [a2.1]; exact hh t ht
  refine ⟨m1, ?_, a2⟩
  rw [n_Day_priceOf hk, a1, bL_s, br_lgeq]
  unfold sp_pr
  cases e : sp_wor T V E day h 2 t with
  | none =>
    rw [Option.getD_none, if_pos rfl]
    simp (disch := omega) only [w_ne, w_at, wl_ne, wl_at, wc_ne, wc_at, upd_at, upd_ne, upl_at, upl_ne, cpy_in0, zn_cl, zn_add, zn_mul, zn_sub, zn_pm, br_tt, br_ff, br_ltT, br_ltF, br_leT, br_leF, br_eqT, br_eqF, br_eqs, br_eqm, br_eqm', br_ltm, br_mlt, br_lem, br_mle, br_oiF, br_lgge, br_lgle, br_lggt, br_lglt, br_lgeq, br_zb, br_zb1, bV_s, bI_s, bL_s, zo_n, zo_s, hh1, e3]
  | some v =>
    rw [Option.getD_some, if_neg (wor_some hE e), clampC]
theorem s_priceR {b : Nat} {T V : Td} {E : Ev} {m : am_M} (W : tw T V) (hE : evW E) (c : rx T V E m) {h : Hs} {day : Nat} (hb1 : b < 2) (hh : ∀ i, i < T 0 0 → m.1 132 (5 * b + i) = zo (h i)) (hb : ∀ i s, i < T 0 0 → h i = some s → s < T 0 0) (hd : m.1 135 b = zn day) {d t : Nat} (ht : t < T 0 0) :
    ∃ m', am_c (d + 4) y_M_priceOf [.ref 107, .int (zn b), .int (zn t)] m = some (some (.int (sp_pr T V E day h t)), m') ∧ frl m m' := by
  have := W.n
  have e0 := s_sizeHad W c hb1 hh hb (d := d + 2) ht
  obtain ⟨m1, a1, a2, a3, a4⟩ := s_layNames W c hb1 hh hb hd (d := d + 1) (z := sp_szo T (h t)) (far := 0) (l := 0) ht
  obtain ⟨tl, h1, h2, h3⟩ := c.lw
  have e1 := h1 2 (by omega)
  rw [n_M_priceOf, e0]
  unfold sp_pr sp_wor
  cases e2 : tl 2 with
  | false =>
    refine ⟨m1, ?_, fun c _ => by rw [a2], fun i _ => by rw [a2], fun c c1 _ => a3 c c1⟩
    rw [h2 2 (by omega) e2]
    rw [e2, zb_f, ← a2] at e1
    simp (disch := omega) only [w_ne, w_at, wl_ne, wl_at, wc_ne, wc_at, upd_at, upd_ne, upl_at, upl_ne, cpy_in0, zn_cl, zn_add, zn_mul, zn_sub, zn_pm, br_tt, br_ff, br_ltT, br_ltF, br_leT, br_leF, br_eqT, br_eqF, br_eqs, br_eqm, br_eqm', br_ltm, br_mlt, br_lem, br_mle, br_oiF, br_lgge, br_lgle, br_lggt, br_lglt, br_lgeq, br_zb, br_zb1, bV_s, bI_s, bL_s, zo_n, zo_s, a1, e1]
  | true =>
    obtain ⟨m2, v, b1, b2, b3, b4, b5⟩ := h3 2 (by omega) e2 d m1 (fun c _ _ => by rw [a2]) (nmB_of a4)
    refine ⟨m2, ?_, ⟨fun c e => by rw [b3 c e, a2], fun i e => by rw [b4 i e, a2], fun c e f => by rw [b5 c f, a3 c e]⟩⟩
    rw [e2, zb_t, ← a2] at e1
    rw [← hE.1 2 _ _ a4]
    rcases b2 with ⟨p1, p2⟩ | ⟨p1, p2⟩
    · rw [p1]; simp (disch := omega) only [w_ne, w_at, wl_ne, wl_at, wc_ne, wc_at, upd_at, upd_ne, upl_at, upl_ne, cpy_in0, zn_cl, zn_add, zn_mul, zn_sub, zn_pm, br_tt, br_ff, br_ltT, br_ltF, br_leT, br_leF, br_eqT, br_eqF, br_eqs, br_eqm, br_eqm', br_ltm, br_mlt, br_lem, br_mle, br_oiF, br_lgge, br_lgle, br_lggt, br_lglt, br_lgeq, br_zb, br_zb1, bV_s, bI_s, bL_s, zo_n, zo_s, a1, e1, b1, p2]
    · rw [p1]; simp (disch := omega) only [w_ne, w_at, wl_ne, wl_at, wc_ne, wc_at, upd_at, upd_ne, upl_at, upl_ne, cpy_in0, zn_cl, zn_add, zn_mul, zn_sub, zn_pm, br_tt, br_ff, br_ltT, br_ltF, br_leT, br_leF, br_eqT, br_eqF, br_eqs, br_eqm, br_eqm', br_ltm, br_mlt, br_lem, br_mle, br_oiF, br_lgge, br_lgle, br_lggt, br_lglt, br_lgeq, br_zb, br_zb1, bV_s, bI_s, bL_s, zo_n, zo_s, a1, e1, b1, p2]
      by_cases g1 : v < 0
      · rw [if_neg (Int64.not_le.mpr g1), if_pos g1]
      · rw [if_pos (Int64.not_lt.mp g1), if_neg g1]
        by_cases g2 : 999 < v
        · rw [if_neg (Int64.not_le.mpr g2), if_pos g2]
        · rw [if_pos (Int64.not_lt.mp g2), if_neg g2]
theorem pr_nn {T V : Td} {E : Ev} {day : Nat} {h : Hs} {t : Nat} (W : tw T V) (hb : ∀ s, h t = some s → s < T 0 0) : 0 ≤ (sp_pr T V E day h t).toInt := by
  unfold sp_pr
  split
  · unfold sp_szo; split
    · rw [zn_i (by omega)]; omega
    · rename_i s e; have := W.sz s (hb s e); rw [zn_i (by omega)]; omega
  · rename_i v e
    split
    · rw [zn_i (by omega)]; omega
    · split
      · rw [zn_i (by omega)]; omega
      · rename_i g1 g2
        have l9 : (999 : Int64).toInt = 999 := rfl
        rw [Int64.lt_iff_toInt_lt] at g1 g2; rw [l0] at g1; rw [l9] at g2
        rw [Int64.toInt_toInt32, Int.bmod_eq_of_le (by omega) (by omega)]; omega
theorem k_price (x : Int32) : ask y_C_price y_M_price [.int x] := by
  refine ask_of fun T G F q w day num m c r => ?_
  have hE := gE_evW c.gw c.gf
  have i1 := s_isThingC c.tc c.tw (d := 6) (x := x)
  have c2 := c.qR (fqR_th m (zn 0))
  cases e : isN (T 0 0) x with
  | false =>
    refine ⟨some (.int zm), m, ?_, fqC_refl m, fun c1 r1 => ?_⟩
    · rw [n_C_price, i1, e]; rfl
    · obtain ⟨m1, a1, a2, a3⟩ := s_plainT c2.tr c.tw c2.nr.os (d := 6)
      have c3 := c2.qR a3.q
      refine ⟨m1, ?_, fqR_tr (fqR_th m (zn 0)) a3.q⟩
      rw [n_M_price, a1, bV_s, s_isThingR c3.tr c.tw, e]; rfl
  | true =>
    obtain ⟨t, ht, rfl⟩ := isN_t e
    obtain ⟨m1, a1, a2⟩ := s_priceC (Or.inr (Or.inr (Or.inl rfl))) c.tw.tw hE (c.tc.cx c.gw) c.sc.hs (fun i s hi e => hw_h c.qw.hw hi e) c.sc.dy (d := 3) ht
    refine ⟨some (.int (sp_pr T (V0 T) (gE G F) day q.2.2.2 t)), m1, ?_, a2.q, fun c1 r1 => ?_⟩
    · rw [n_C_price, i1, e, bI_s, br_zb, if_pos rfl, a1, bI_s]
    · have c2 := c1.qR (fqR_th m1 (zn 0))
      obtain ⟨m2, b1, b2, b3⟩ := s_plainT c2.tr c.tw c2.nr.os (d := 6)
      have c3 := c2.qR b3.q
      have rn0 := c3.nr.rn0 b2 (fun l hl => by have := c.qw.om l hl; have := c.tw.L; omega) c.tw.L
      obtain ⟨m3, d1, d2⟩ := s_priceR (b := 0) c.tw.tw hE (c3.tr.rx b2 c.tw c.gw) (by omega) rn0.hs (fun i s hi e => hw_h c.qw.hw hi e) rn0.dy (d := 3) ht
      refine ⟨m3, ?_, fqR_tr (fqR_th m1 (zn 0)) (fqR_tr b3.q d2.q)⟩
      rw [n_M_price, b1, bV_s, s_isThingR c3.tr c.tw, e, bI_s, br_zb, if_pos rfl, d1, bI_s]
/-- a trial goes on -/
def sp_sea (T V : Td) (E : Ev) (U : Nat → Nat) (ord : List Nat) (mt : List (Nat × Nat)) (t : Nat) : Nat → Nat → Hs → List Nat → Int32 → Int32 → Int32 × Int32
  | 0, _, _, _, wh, de => (wh, de)
  | r + 1, day, h, w, wh, de => if (sp_pr T V E day h t).toInt ≤ de.toInt then sp_sea T V E U ord mt t r (day + 1) (sp_pass T V E U day ord mt h w).1 (sp_pass T V E U day ord mt h w).2 wh de else sp_sea T V E U ord mt t r (day + 1) (sp_pass T V E U day ord mt h w).1 (sp_pass T V E U day ord mt h w).2 (zn day) (sp_pr T V E day h t)
theorem lp_sea {T V : Td} {E : Ev} (W : tw T V) (hE : evW E) {U : Nat → Nat} {ord : List Nat} {mt : List (Nat × Nat)} {t n d : Nat} {x3 : Int32} (ht : t < T 0 0) (hn : n ≤ 20) (r : Nat) :
    ∀ (i f day : Nat) (h : Hs) (w : List Nat) (wh de : Int32) (x7 : Option Value) (m : am_M), i + r = n → r < f → sw T ord U mt (day + r) → cx T V E m → sn 85 T ord U mt h w day m → hwI (T 0 0) h w →
    ∃ m', r_C_season_56 (d + 5) f (zn t) (zn n) x3 de wh (zn i) x7 m = some (some (.int (if x3 = zn 0 then (sp_sea T V E U ord mt t r day h w wh de).1 else (sp_sea T V E U ord mt t r day h w wh de).2)), m') ∧ fqC m m' := by
  induction r with
  | zero =>
    intro i f day h w wh de x7 m h1 h2 S c s I
    obtain ⟨f, rfl⟩ : ∃ g, f = g + 1 := ⟨f - 1, by omega⟩
    refine ⟨m, ?_, fqC_refl m⟩
    rw [e_C_season_56, br_leT (by omega) (by omega), br_eq, io]; rfl
  | succ r ih =>
    intro i f day h w wh de x7 m h1 h2 S c s I
    obtain ⟨f, rfl⟩ : ∃ g, f = g + 1 := ⟨f - 1, by omega⟩
    have hk : sc_k 85 := Or.inr (Or.inr (Or.inr (Or.inr rfl)))
    obtain ⟨m1, a1, a2⟩ := s_priceC hk W hE c s.hs (fun i s hi e => hw_h I hi e) s.dy (d := d + 1) ht
    have S0 : sw T ord U mt day := ⟨S.ol, S.os, S.hu, S.ml, S.ms, by have := S.dy; omega⟩
    have s1 := s.same a2.1
    obtain ⟨m2, b1, b2, b3⟩ := s_pass hk W hE S0 (c.same a2.1) s1 I (d := d)
    have S1 : sw T ord U mt (day + 1 + r) := ⟨S.ol, S.os, S.hu, S.ml, S.ms, by have := S.dy; omega⟩
    rw [e_C_season_56, br_leF (by omega) (by omega), a1, bI_s, br_le, sp_sea, b1, bV_s, bV_s, s1.dy, zn_add]
    by_cases g : (sp_pr T V E day h t).toInt ≤ de.toInt
    · obtain ⟨m', d1, d2⟩ := ih (i + 1) f (day + 1) _ _ wh de (some (.int (sp_pr T V E day h t))) m2 (by omega) (by omega) S1 ((c.same a2.1).fy hk b3) b2 (pass_hw S.ms I)
      rw [if_pos g, if_pos g]
      exact ⟨m', d1, fqC_tr (fqC_tr a2.q (b3.q (by omega))) d2⟩
    · obtain ⟨m', d1, d2⟩ := ih (i + 1) f (day + 1) _ _ (zn day) (sp_pr T V E day h t) (some (.int (sp_pr T V E day h t))) m2 (by omega) (by omega) S1 ((c.same a2.1).fy hk b3) b2 (pass_hw S.ms I)
      rw [if_neg g, if_neg g]
      exact ⟨m', d1, fqC_tr (fqC_tr a2.q (b3.q (by omega))) d2⟩
theorem lq_sea {T V : Td} {E : Ev} (W : tw T V) (hE : evW E) {U : Nat → Nat} {ord : List Nat} {mt : List (Nat × Nat)} {t n d : Nat} {x3 : Int32} (ht : t < T 0 0) (hn : n ≤ 20) (r : Nat) :
    ∀ (i f day : Nat) (h : Hs) (w : List Nat) (wh de : Int32) (x7 : Option Value) (m : am_M), i + r = n → r < f → sw T ord U mt (day + r) → rx T V E m → rn 1 T ord U mt h w day m → hwI (T 0 0) h w →
    ∃ m', r_M_season_47 (d + 6) f (zn t) (zn n) x3 wh de (zn i) x7 m = some (some (.int (if x3 = zn 0 then (sp_sea T V E U ord mt t r day h w wh de).1 else (sp_sea T V E U ord mt t r day h w wh de).2)), m') ∧ fqR m m' := by
  induction r with
  | zero =>
    intro i f day h w wh de x7 m h1 h2 S c s I
    obtain ⟨f, rfl⟩ : ∃ g, f = g + 1 := ⟨f - 1, by omega⟩
    refine ⟨m, ?_, fqR_refl m⟩
    rw [e_M_season_47, br_leT (by omega) (by omega), br_eq, io]; rfl
  | succ r ih =>
    intro i f day h w wh de x7 m h1 h2 S c s I
    obtain ⟨f, rfl⟩ : ∃ g, f = g + 1 := ⟨f - 1, by omega⟩
    obtain ⟨m1, a1, a2⟩ := s_priceR (b := 1) W hE c (by omega) s.hs (fun i s hi e => hw_h I hi e) s.dy (d := d + 2) ht
    have S0 : sw T ord U mt day := ⟨S.ol, S.os, S.hu, S.ml, S.ms, by have := S.dy; omega⟩
    have s1 := s.fl a2
    obtain ⟨m2, b1, b2, b3⟩ := s_goOn (b := 1) (by omega) W hE S0 (c.fl a2) s1 I (d := d)
    have S1 : sw T ord U mt (day + 1 + r) := ⟨S.ol, S.os, S.hu, S.ml, S.ms, by have := S.dy; omega⟩
    rw [e_M_season_47, br_leF (by omega) (by omega), a1, bI_s, br_le, sp_sea, b1, bV_s, bV_s, s1.dy, zn_add]
    by_cases g : (sp_pr T V E day h t).toInt ≤ de.toInt
    · obtain ⟨m', d1, d2⟩ := ih (i + 1) f (day + 1) _ _ wh de (some (.int (sp_pr T V E day h t))) m2 (by omega) (by omega) S1 ((c.fl a2).fy b3) b2 (pass_hw S.ms I)
      rw [if_pos g, if_pos g]
      exact ⟨m', d1, fqR_tr (fqR_tr a2.q b3.q) d2⟩
    · obtain ⟨m', d1, d2⟩ := ih (i + 1) f (day + 1) _ _ (zn day) (sp_pr T V E day h t) (some (.int (sp_pr T V E day h t))) m2 (by omega) (by omega) S1 ((c.fl a2).fy b3) b2 (pass_hw S.ms I)
      rw [if_neg g, if_neg g]
      exact ⟨m', d1, fqR_tr (fqR_tr a2.q b3.q) d2⟩
theorem isR_eq {a b : Nat} {x : Int32} {t f : am_R} (hb : b < 1000) (ha : a < 1000) : am_b (am_lt x (zn a)) f (am_b (am_lt (zn b) x) f t) = if isR a b x = true then t else f := by
  rw [br_lt, br_lt, zn_i (by omega), zn_i (by omega)]; unfold isR
  by_cases h1 : x.toInt < a
  · rw [if_pos (by omega), if_neg (by rw [decide_eq_true_eq]; omega)]
  · rw [if_neg (by omega)]
    by_cases h2 : (b : Int) < x.toInt
    · rw [if_pos h2, if_neg (by rw [decide_eq_true_eq]; omega)]
    · rw [if_neg h2, if_pos (by rw [decide_eq_true_eq]; omega)]
theorem isR_le {a b : Nat} {x : Int32} {t f : am_R} (hb : b < 1000) (ha : a < 1000) : am_b (am_lt x (zn a)) f (am_b (am_le x (zn b)) t f) = if isR a b x = true then t else f := by
  rw [br_lt, br_le, zn_i (by omega), zn_i (by omega)]; unfold isR
  by_cases h1 : x.toInt < a
  · rw [if_pos (by omega), if_neg (by rw [decide_eq_true_eq]; omega)]
  · rw [if_neg (by omega)]
    by_cases h2 : x.toInt ≤ b
    · rw [if_pos h2, if_pos (by rw [decide_eq_true_eq]; omega)]
    · rw [if_neg h2, if_neg (by rw [decide_eq_true_eq]; omega)]
theorem s_isInN {d a b : Nat} {x : Int32} {m : am_M} (ha : a < 1000) (hb : b < 1000) : am_c (d + 1) y_M_isIn [.int x, .int (zn a), .int (zn b)] m = some (some (.int (zb (isR a b x))), m) := by
  rw [s_isIn, zn_i (by omega), zn_i (by omega)]
theorem k_season (x y z : Int32) : ask y_C_season y_M_season [.int x, .int y, .int z] := by
  refine ask_of fun T G F q w day num m c r => ?_
  have hE := gE_evW c.gw c.gf
  have hw5 := hw_len c.qw.hw; have hn5 := c.tw.n; have hL := c.tw.L; have ol := c.qw.ol; have hdb := c.db
  have i1 := s_isThingC c.tc c.tw (d := 6) (x := x)
  have c2 := c.qR (fqR_th m (zn 0))
  have i2 := s_isThingR c2.tr c.tw (d := 6) (x := x)
  by_cases ok : isN (T 0 0) x = true ∧ isR (1 : Nat) (20 : Nat) y = true ∧ isR (0 : Nat) (1 : Nat) z = true
  · obtain ⟨e1, e2, e3⟩ := ok
    obtain ⟨t, ht, rfl⟩ := isN_t e1
    obtain ⟨n, n1, n2, rfl⟩ := isR_t e2
    have hk : sc_k 85 := Or.inr (Or.inr (Or.inr (Or.inr rfl)))
    obtain ⟨m1, a1, a2, a3, a4⟩ := s_copy hk (Or.inr (Or.inr (Or.inl rfl))) (by omega) c.tw c.sc (by omega) (by omega) c.qw.ml (d := 6)
    have fq1 : fqC m m1 := a4.q (by omega)
    have c1 := c.qC fq1
    obtain ⟨r0, rfl⟩ : ∃ k, n = k + 1 := ⟨n - 1, by omega⟩
    have S := c.qw.sw c.tw (day := day + (r0 + 1)) (by omega)
    obtain ⟨m2, b1, b2⟩ := lp_sea c.tw.tw hE (d := 2) (x3 := z) ht n2 (r0 + 1) 0 29999 day q.2.2.2 w (zn day) zm none m1 (by omega) (by omega) S (c1.tc.cx c.gw) a2 c.qw.hw
    refine ⟨some (.int (if z = zn 0 then (sp_sea T (V0 T) (gE G F) q.2.1 q.1 q.2.2.1 t (r0 + 1) day q.2.2.2 w (zn day) zm).1 else (sp_sea T (V0 T) (gE G F) q.2.1 q.1 q.2.2.1 t (r0 + 1) day q.2.2.2 w (zn day) zm).2)), m2, ?_, fqC_tr fq1 b2, fun c3 r3 => ?_⟩
    · rw [n_C_season, i1, e1, bI_s, br_zb, if_pos rfl, isR_eq (by omega) (by omega), if_pos e2, isR_le (by omega) (by omega), if_pos e3, a1, bV_s, c1.sc.dy]
      exact b1
    · have c4 := c3.qR (fqR_th m2 (zn 0))
      obtain ⟨m4, d1, d2, d3, d4⟩ := s_layT c.tw c4.tr c4.nr (by omega) (fun l hl => by have := c.qw.om l hl; omega) (d := 5)
      have c5 := c4.qR d4
      obtain ⟨m5, g1, g2⟩ := lq_sea c.tw.tw hE (d := 1) (x3 := z) ht n2 (r0 + 1) 0 29999 day q.2.2.2 w (zn 0) zm none m4 (by omega) (by omega) S (c5.tr.rx d2 c.tw c.gw) d3 c.qw.hw
      have same : sp_sea T (V0 T) (gE G F) q.2.1 q.1 q.2.2.1 t (r0 + 1) day q.2.2.2 w (zn 0) zm = sp_sea T (V0 T) (gE G F) q.2.1 q.1 q.2.2.1 t (r0 + 1) day q.2.2.2 w (zn day) zm := by
        have := pr_nn (V := V0 T) (E := gE G F) (day := day) (h := q.2.2.2) (t := t) c.tw.tw (fun s e => hw_h c.qw.hw ht e)
        rw [sp_sea, sp_sea, if_neg (by rw [zm_i]; omega), if_neg (by rw [zm_i]; omega)]
      rw [same] at g1
      refine ⟨m5, ?_, fqR_tr (fqR_th m2 (zn 0)) (fqR_tr d4 g2)⟩
      rw [n_M_season, s_isThingR c4.tr c.tw, e1, bI_s, br_zb, if_pos rfl, s_isInN (by omega) (by omega), e2, bI_s, br_zb, if_pos rfl, s_isInN (by omega) (by omega), e3, bI_s, br_zb, if_pos rfl, d1, bV_s]
      exact g1
  · refine ⟨some (.int zm), m, ?_, fqC_refl m, fun c1 r1 => ⟨_, ?_, fqR_th m (zn 0)⟩⟩
    · rw [n_C_season, i1, bI_s, br_zb, isR_eq (by omega) (by omega), isR_le (by omega) (by omega)]
      by_cases e1 : isN (T 0 0) x = true
      · rw [if_pos e1]
        by_cases e2 : isR (1 : Nat) (20 : Nat) y = true
        · rw [if_pos e2, if_neg (fun e3 => ok ⟨e1, e2, e3⟩)]
        · rw [if_neg e2]
      · rw [if_neg e1]
    · rw [n_M_season, i2, bI_s, br_zb, s_isInN (by omega) (by omega), bI_s, br_zb, s_isInN (by omega) (by omega), bI_s, br_zb]
      by_cases e1 : isN (T 0 0) x = true
      · rw [if_pos e1]
        by_cases e2 : isR (1 : Nat) (20 : Nat) y = true
        · rw [if_pos e2, if_neg (fun e3 => ok ⟨e1, e2, e3⟩)]
        · rw [if_neg e2]
      · rw [if_neg e1]
