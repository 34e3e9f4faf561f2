/-! tried -/
def sp_pn (T V : Td) (E : Ev) (U : Nat → Nat) (ord : List Nat) (mt : List (Nat × Nat)) : Nat → Nat → Hs → List Nat → Hs × List Nat
  | 0, _, h, w => (h, w)
  | r + 1, day, h, w => sp_pn T V E U ord mt r (day + 1) (sp_pass T V E U day ord mt h w).1 (sp_pass T V E U day ord mt h w).2
theorem pn_hw {T V : Td} {E : Ev} {U : Nat → Nat} {ord : List Nat} {mt : List (Nat × Nat)} (hm : ∀ p, p ∈ mt → p.1 < T 0 0 ∧ p.2 < T 0 0 ∧ p.1 ≠ p.2) (r : Nat) : ∀ (day : Nat) (h : Hs) (w : List Nat), hwI (T 0 0) h w → hwI (T 0 0) (sp_pn T V E U ord mt r day h w).1 (sp_pn T V E U ord mt r day h w).2 := by
  induction r with
  | zero => intro day h w I; exact I
  | succ r ih => intro day h w I; exact ih _ _ _ (pass_hw hm I)
theorem fdy_refl (k : Nat) (m : am_M) : fdy k m m := ⟨fun _ _ _ _ _ => rfl, fun _ _ _ _ => rfl, fun _ _ _ => rfl⟩
theorem lp_tr {T V : Td} {E : Ev} (W : tw T V) (hE : evW E) {U : Nat → Nat} {ord : List Nat} {mt : List (Nat × Nat)} {n d : Nat} {x1 x2 : Int32} (hn : n ≤ 20) (r : Nat) :
    ∀ (i f day : Nat) (h : Hs) (w : List Nat) (m : am_M), i + r = n → r < f → sw T ord U mt (day + r) → cx T V E m → sn 85 T ord U mt h w day m → hwI (T 0 0) h w →
    ∃ f' m', r_C_tried_119 (d + 5) f x1 x2 (zn n) (zn i) m = r_C_tried_119 (d + 5) (f' + 1) x1 x2 (zn n) (zn n) m' ∧ f ≤ f' + r + 1 ∧ sn 85 T ord U mt (sp_pn T V E U ord mt r day h w).1 (sp_pn T V E U ord mt r day h w).2 (day + r) m' ∧ fdy 85 m m' := by
  have hk : sc_k 85 := Or.inr (Or.inr (Or.inr (Or.inr rfl)))
  induction r with
  | zero =>
    intro i f day h w m h1 h2 S c s I
    refine ⟨f - 1, m, ?_, by omega, s, fdy_refl 85 m⟩
    rw [Nat.sub_add_cancel (by omega), show i = n from by omega]
  | succ r ih =>
    intro i f day h w m h1 h2 S c s I
    obtain ⟨f, rfl⟩ : ∃ g, f = g + 1 := ⟨f - 1, by omega⟩
    have S0 : sw T ord U mt day := ⟨S.ol, S.os, S.hu, S.ml, S.ms, by have := S.dy; omega⟩
    have S1 : sw T ord U mt (day + 1 + r) := ⟨S.ol, S.os, S.hu, S.ml, S.ms, by have := S.dy; omega⟩
    obtain ⟨m1, a1, a2, a3⟩ := s_pass hk W hE S0 c s I (d := d)
    obtain ⟨f', m', b1, b0, b2, b3⟩ := ih (i + 1) f (day + 1) _ _ m1 (by omega) (by omega) S1 (c.fy hk a3) a2 (pass_hw S.ms I)
    rw [show day + 1 + r = day + (r + 1) from by omega] at b2
    refine ⟨f', m', ?_, by omega, b2, fdy_tr a3 b3⟩
    rw [e_C_tried_119, br_leF (by omega) (by omega), a1, bV_s, zn_add, b1]
theorem lq_tr {T V : Td} {E : Ev} (W : tw T V) (hE : evW E) {U : Nat → Nat} {ord : List Nat} {mt : List (Nat × Nat)} {n d : Nat} {x1 x2 : Int32} (hn : n ≤ 20) (r : Nat) :
    ∀ (i f day : Nat) (h : Hs) (w : List Nat) (m : am_M), i + r = n → r < f → sw T ord U mt (day + r) → rx T V E m → rn 1 T ord U mt h w day m → hwI (T 0 0) h w →
    ∃ m', r_M_tried_140 (d + 6) f x1 x2 (zn n) (zn i) m = some (some (.int (zn (sp_own (T 0 0) (sp_pn T V E U ord mt r day h w).1))), m') ∧ fqR m m' := by
  induction r with
  | zero =>
    intro i f day h w m h1 h2 S c s I
    obtain ⟨f, rfl⟩ : ∃ g, f = g + 1 := ⟨f - 1, by omega⟩
    refine ⟨m, ?_, fqR_refl m⟩
    rw [e_M_tried_140, br_leT (by omega) (by omega), s_ownIn (b := 1) (by omega) W.n c.n s.hs I, bI_s]; rfl
  | succ r ih =>
    intro i f day h w m h1 h2 S c s I
    obtain ⟨f, rfl⟩ : ∃ g, f = g + 1 := ⟨f - 1, by omega⟩
    have S0 : sw T ord U mt day := ⟨S.ol, S.os, S.hu, S.ml, S.ms, by have := S.dy; omega⟩
    have S1 : sw T ord U mt (day + 1 + r) := ⟨S.ol, S.os, S.hu, S.ml, S.ms, by have := S.dy; omega⟩
    obtain ⟨m1, a1, a2, a3⟩ := s_goOn (b := 1) (by omega) W hE S0 c s I (d := d)
    obtain ⟨m', b1, b2⟩ := ih (i + 1) f (day + 1) _ _ m1 (by omega) (by omega) S1 (c.fy a3) a2 (pass_hw S.ms I)
    refine ⟨m', ?_, fqR_tr a3.q b2⟩
    rw [e_M_tried_140, br_leF (by omega) (by omega), a1, bV_s, zn_add, b1]; rfl
/-- the ways follow what was told again -/
theorem s_follow {T G F : Td} {m m3 : am_M} (c : tC T G F m) {d : Nat} (e1 : ∀ c, 27 ≤ c → c ≤ 45 → m3.1 c = m.1 c) (e2 : ∀ i, 5 ≤ i → m3.1 47 i = m.1 47 i ∧ m3.1 48 i = m.1 48 i ∧ m3.1 49 i = m.1 49 i) (e3 : ∀ i, i ≠ 3 → m3.1 46 i = m.1 46 i) :
    ∃ m4, am_c (d + 1) y_Ways_follow [.ref 46, .ref 27] m3 = some (none, m4) ∧ m4.2 = m3.2 ∧ (∀ c, c < 46 ∨ 49 < c → m4.1 c = m3.1 c) ∧ ∀ c, 46 ≤ c → c ≤ 49 → m4.1 c = m.1 c := by
  refine ⟨_, n_Ways_follow d m3, rfl, fun c hc => by simp (disch := omega) only [w_ne, w_at, wl_ne, wl_at, wc_ne, wc_at, upd_at, upd_ne, upl_at, upl_ne, cpy_in0, zn_cl, zn_add, zn_mul, zn_sub, zn_pm, br_tt, br_ff, br_ltT, br_ltF, br_leT, br_leF, br_eqT, br_eqF, br_eqs, br_eqm, br_eqm', br_ltm, br_mlt, br_lem, br_mle, br_oiF, br_lgge, br_lgle, br_lggt, br_lglt, br_lgeq, br_zb, br_zb1, bV_s, bI_s, bL_s, zo_n, zo_s], ?_⟩
  intro p p1 p2
  funext i
  rcases (by omega : p = 46 ∨ p = 47 ∨ p = 48 ∨ p = 49) with e | e | e | e <;> subst e
  · by_cases q : i = 3
    · subst q; simp (disch := omega) only [w_ne, w_at, wl_ne, wl_at, wc_ne, wc_at, upd_at, upd_ne, upl_at, upl_ne, cpy_in0, zn_cl, zn_add, zn_mul, zn_sub, zn_pm, br_tt, br_ff, br_ltT, br_ltF, br_leT, br_leF, br_eqT, br_eqF, br_eqs, br_eqm, br_eqm', br_ltm, br_mlt, br_lem, br_mle, br_oiF, br_lgge, br_lgle, br_lggt, br_lglt, br_lgeq, br_zb, br_zb1, bV_s, bI_s, bL_s, zo_n, zo_s, e1, c.rl, c.wr]
    · simp (disch := omega) only [w_ne, w_at, wl_ne, wl_at, wc_ne, wc_at, upd_at, upd_ne, upl_at, upl_ne, cpy_in0, zn_cl, zn_add, zn_mul, zn_sub, zn_pm, br_tt, br_ff, br_ltT, br_ltF, br_leT, br_leF, br_eqT, br_eqF, br_eqs, br_eqm, br_eqm', br_ltm, br_mlt, br_lem, br_mle, br_oiF, br_lgge, br_lgle, br_lggt, br_lglt, br_lgeq, br_zb, br_zb1, bV_s, bI_s, bL_s, zo_n, zo_s]; exact e3 i q
  · by_cases q : i < 5
    · simp (disch := omega) only [w_ne, w_at, wl_ne, wl_at, wc_ne, wc_at, upd_at, upd_ne, upl_at, upl_ne, cpy_in0, zn_cl, zn_add, zn_mul, zn_sub, zn_pm, br_tt, br_ff, br_ltT, br_ltF, br_leT, br_leF, br_eqT, br_eqF, br_eqs, br_eqm, br_eqm', br_ltm, br_mlt, br_lem, br_mle, br_oiF, br_lgge, br_lgle, br_lggt, br_lglt, br_lgeq, br_zb, br_zb1, bV_s, bI_s, bL_s, zo_n, zo_s, e1, (c.w5 i q).1]
    · simp (disch := omega) only [w_ne, w_at, wl_ne, wl_at, wc_ne, wc_at, upd_at, upd_ne, upl_at, upl_ne, cpy_in0, zn_cl, zn_add, zn_mul, zn_sub, zn_pm, br_tt, br_ff, br_ltT, br_ltF, br_leT, br_leF, br_eqT, br_eqF, br_eqs, br_eqm, br_eqm', br_ltm, br_mlt, br_lem, br_mle, br_oiF, br_lgge, br_lgle, br_lggt, br_lglt, br_lgeq, br_zb, br_zb1, bV_s, bI_s, bL_s, zo_n, zo_s]; rw [cpy_out (by omega)]; exact (e2 i (by omega)).1
  · by_cases q : i < 5
    · simp (disch := omega) only [w_ne, w_at, wl_ne, wl_at, wc_ne, wc_at, upd_at, upd_ne, upl_at, upl_ne, cpy_in0, zn_cl, zn_add, zn_mul, zn_sub, zn_pm, br_tt, br_ff, br_ltT, br_ltF, br_leT, br_leF, br_eqT, br_eqF, br_eqs, br_eqm, br_eqm', br_ltm, br_mlt, br_lem, br_mle, br_oiF, br_lgge, br_lgle, br_lggt, br_lglt, br_lgeq, br_zb, br_zb1, bV_s, bI_s, bL_s, zo_n, zo_s, e1, (c.w5 i q).2.1]
    · simp (disch := omega) only [w_ne, w_at, wl_ne, wl_at, wc_ne, wc_at, upd_at, upd_ne, upl_at, upl_ne, cpy_in0, zn_cl, zn_add, zn_mul, zn_sub, zn_pm, br_tt, br_ff, br_ltT, br_ltF, br_leT, br_leF, br_eqT, br_eqF, br_eqs, br_eqm, br_eqm', br_ltm, br_mlt, br_lem, br_mle, br_oiF, br_lgge, br_lgle, br_lggt, br_lglt, br_lgeq, br_zb, br_zb1, bV_s, bI_s, bL_s, zo_n, zo_s]; rw [cpy_out (by omega)]; exact (e2 i (by omega)).2.1
  · by_cases q : i < 5
    · simp (disch := omega) only [w_ne, w_at, wl_ne, wl_at, wc_ne, wc_at, upd_at, upd_ne, upl_at, upl_ne, cpy_in0, zn_cl, zn_add, zn_mul, zn_sub, zn_pm, br_tt, br_ff, br_ltT, br_ltF, br_leT, br_leF, br_eqT, br_eqF, br_eqs, br_eqm, br_eqm', br_ltm, br_mlt, br_lem, br_mle, br_oiF, br_lgge, br_lgle, br_lggt, br_lglt, br_lgeq, br_zb, br_zb1, bV_s, bI_s, bL_s, zo_n, zo_s, e1, (c.w5 i q).2.2]
    · simp (disch := omega) only [w_ne, w_at, wl_ne, wl_at, wc_ne, wc_at, upd_at, upd_ne, upl_at, upl_ne, cpy_in0, zn_cl, zn_add, zn_mul, zn_sub, zn_pm, br_tt, br_ff, br_ltT, br_ltF, br_leT, br_leF, br_eqT, br_eqF, br_eqs, br_eqm, br_eqm', br_ltm, br_mlt, br_lem, br_mle, br_oiF, br_lgge, br_lgle, br_lggt, br_lglt, br_lgeq, br_zb, br_zb1, bV_s, bI_s, bL_s, zo_n, zo_s]; rw [cpy_out (by omega)]; exact (e2 i (by omega)).2.2
theorem lp_reachAll {d : Nat} (r : Nat) : ∀ (i f : Nat) (m : am_M), i + r = 5 → r < f → ∃ m', r_Ways_reachAll_2 d f (zn i) m = some (none, m') ∧ m'.2 = m.2 ∧ (∀ c, c ≠ 49 → m'.1 c = m.1 c) ∧ (∀ q, i ≤ q → q < 5 → m'.1 49 q = zn 29) ∧ ∀ q, q < i ∨ 5 ≤ q → m'.1 49 q = m.1 49 q := by
  induction r with
  | zero =>
    intro i f m h1 h2
    obtain ⟨f, rfl⟩ : ∃ g, f = g + 1 := ⟨f - 1, by omega⟩
    refine ⟨m, ?_, rfl, fun _ _ => rfl, fun q _ _ => by omega, fun _ _ => rfl⟩
    rw [e_Ways_reachAll_2]; simp (disch := omega) only [w_ne, w_at, wl_ne, wl_at, wc_ne, wc_at, upd_at, upd_ne, upl_at, upl_ne, cpy_in0, zn_cl, zn_add, zn_mul, zn_sub, zn_pm, br_tt, br_ff, br_ltT, br_ltF, br_leT, br_leF, br_eqT, br_eqF, br_eqs, br_eqm, br_eqm', br_ltm, br_mlt, br_lem, br_mle, br_oiF, br_lgge, br_lgle, br_lggt, br_lglt, br_lgeq, br_zb, br_zb1, bV_s, bI_s, bL_s, zo_n, zo_s]
  | succ r ih =>
    intro i f m h1 h2
    obtain ⟨f, rfl⟩ : ∃ g, f = g + 1 := ⟨f - 1, by omega⟩
    obtain ⟨m', b1, b2, b3, b4, b5⟩ := ih (i + 1) f (am_w m.1 49 i (zn 29), m.2) (by omega) (by omega)
    refine ⟨m', ?_, b2, fun c hc => ?_, fun q q1 q2 => ?_, fun q hq => ?_⟩
    · rw [e_Ways_reachAll_2]; simp (disch := omega) only [w_ne, w_at, wl_ne, wl_at, wc_ne, wc_at, upd_at, upd_ne, upl_at, upl_ne, cpy_in0, zn_cl, zn_add, zn_mul, zn_sub, zn_pm, br_tt, br_ff, br_ltT, br_ltF, br_leT, br_leF, br_eqT, br_eqF, br_eqs, br_eqm, br_eqm', br_ltm, br_mlt, br_lem, br_mle, br_oiF, br_lgge, br_lgle, br_lggt, br_lglt, br_lgeq, br_zb, br_zb1, bV_s, bI_s, bL_s, zo_n, zo_s]; exact b1
    · rw [b3 c hc]; simp (disch := omega) only [w_ne, w_at, wl_ne, wl_at, wc_ne, wc_at, upd_at, upd_ne, upl_at, upl_ne, cpy_in0, zn_cl, zn_add, zn_mul, zn_sub, zn_pm, br_tt, br_ff, br_ltT, br_ltF, br_leT, br_leF, br_eqT, br_eqF, br_eqs, br_eqm, br_eqm', br_ltm, br_mlt, br_lem, br_mle, br_oiF, br_lgge, br_lgle, br_lggt, br_lglt, br_lgeq, br_zb, br_zb1, bV_s, bI_s, bL_s, zo_n, zo_s]
    · by_cases e : q = i
      · subst e; rw [b5 q (by omega)]; simp (disch := omega) only [w_ne, w_at, wl_ne, wl_at, wc_ne, wc_at, upd_at, upd_ne, upl_at, upl_ne, cpy_in0, zn_cl, zn_add, zn_mul, zn_sub, zn_pm, br_tt, br_ff, br_ltT, br_ltF, br_leT, br_leF, br_eqT, br_eqF, br_eqs, br_eqm, br_eqm', br_ltm, br_mlt, br_lem, br_mle, br_oiF, br_lgge, br_lgle, br_lggt, br_lglt, br_lgeq, br_zb, br_zb1, bV_s, bI_s, bL_s, zo_n, zo_s]
      · exact b4 q (by omega) q2
    · rw [b5 q (by omega)]; simp (disch := omega) only [w_ne, w_at, wl_ne, wl_at, wc_ne, wc_at, upd_at, upd_ne, upl_at, upl_ne, cpy_in0, zn_cl, zn_add, zn_mul, zn_sub, zn_pm, br_tt, br_ff, br_ltT, br_ltF, br_leT, br_leF, br_eqT, br_eqF, br_eqs, br_eqm, br_eqm', br_ltm, br_mlt, br_lem, br_mle, br_oiF, br_lgge, br_lgle, br_lggt, br_lglt, br_lgeq, br_zb, br_zb1, bV_s, bI_s, bL_s, zo_n, zo_s]
theorem lp_cheerAll {d : Nat} (r : Nat) : ∀ (i f : Nat) (m : am_M), i + r = 5 → r < f → ∃ m', r_Ways_cheerAll_2 d f (zn i) m = some (none, m') ∧ m'.2 = m.2 ∧ (∀ c, c ≠ 48 → m'.1 c = m.1 c) ∧ (∀ q, i ≤ q → q < 5 → m'.1 48 q = if m.1 48 q = zn 2 then zn 0 else m.1 48 q) ∧ ∀ q, q < i ∨ 5 ≤ q → m'.1 48 q = m.1 48 q := by
  induction r with
  | zero =>
    intro i f m h1 h2
    obtain ⟨f, rfl⟩ : ∃ g, f = g + 1 := ⟨f - 1, by omega⟩
    refine ⟨m, ?_, rfl, fun _ _ => rfl, fun q _ _ => by omega, fun _ _ => rfl⟩
    rw [e_Ways_cheerAll_2]; simp (disch := omega) only [w_ne, w_at, wl_ne, wl_at, wc_ne, wc_at, upd_at, upd_ne, upl_at, upl_ne, cpy_in0, zn_cl, zn_add, zn_mul, zn_sub, zn_pm, br_tt, br_ff, br_ltT, br_ltF, br_leT, br_leF, br_eqT, br_eqF, br_eqs, br_eqm, br_eqm', br_ltm, br_mlt, br_lem, br_mle, br_oiF, br_lgge, br_lgle, br_lggt, br_lglt, br_lgeq, br_zb, br_zb1, bV_s, bI_s, bL_s, zo_n, zo_s]
  | succ r ih =>
    intro i f m h1 h2
    obtain ⟨f, rfl⟩ : ∃ g, f = g + 1 := ⟨f - 1, by omega⟩
    by_cases g : m.1 48 i = zn 2
    · obtain ⟨m', b1, b2, b3, b4, b5⟩ := ih (i + 1) f (am_w m.1 48 i (zn 0), m.2) (by omega) (by omega)
      refine ⟨m', ?_, b2, fun c hc => ?_, fun q q1 q2 => ?_, fun q hq => ?_⟩
      · rw [e_Ways_cheerAll_2]; simp (disch := omega) only [w_ne, w_at, wl_ne, wl_at, wc_ne, wc_at, upd_at, upd_ne, upl_at, upl_ne, cpy_in0, zn_cl, zn_add, zn_mul, zn_sub, zn_pm, br_tt, br_ff, br_ltT, br_ltF, br_leT, br_leF, br_eqT, br_eqF, br_eqs, br_eqm, br_eqm', br_ltm, br_mlt, br_lem, br_mle, br_oiF, br_lgge, br_lgle, br_lggt, br_lglt, br_lgeq, br_zb, br_zb1, bV_s, bI_s, bL_s, zo_n, zo_s, g]; exact b1
      · rw [b3 c hc]; simp (disch := omega) only [w_ne, w_at, wl_ne, wl_at, wc_ne, wc_at, upd_at, upd_ne, upl_at, upl_ne, cpy_in0, zn_cl, zn_add, zn_mul, zn_sub, zn_pm, br_tt, br_ff, br_ltT, br_ltF, br_leT, br_leF, br_eqT, br_eqF, br_eqs, br_eqm, br_eqm', br_ltm, br_mlt, br_lem, br_mle, br_oiF, br_lgge, br_lgle, br_lggt, br_lglt, br_lgeq, br_zb, br_zb1, bV_s, bI_s, bL_s, zo_n, zo_s]
      · by_cases e : q = i
        · subst e; rw [b5 q (by omega), if_pos g]; simp (disch := omega) only [w_ne, w_at, wl_ne, wl_at, wc_ne, wc_at, upd_at, upd_ne, upl_at, upl_ne, cpy_in0, zn_cl, zn_add, zn_mul, zn_sub, zn_pm, br_tt, br_ff, br_ltT, br_ltF, br_leT, br_leF, br_eqT, br_eqF, br_eqs, br_eqm, br_eqm', br_ltm, br_mlt, br_lem, br_mle, br_oiF, br_lgge, br_lgle, br_lggt, br_lglt, br_lgeq, br_zb, br_zb1, bV_s, bI_s, bL_s, zo_n, zo_s]
        · rw [b4 q (by omega) q2]; simp (disch := omega) only [w_ne, w_at, wl_ne, wl_at, wc_ne, wc_at, upd_at, upd_ne, upl_at, upl_ne, cpy_in0, zn_cl, zn_add, zn_mul, zn_sub, zn_pm, br_tt, br_ff, br_ltT, br_ltF, br_leT, br_leF, br_eqT, br_eqF, br_eqs, br_eqm, br_eqm', br_ltm, br_mlt, br_lem, br_mle, br_oiF, br_lgge, br_lgle, br_lggt, br_lglt, br_lgeq, br_zb, br_zb1, bV_s, bI_s, bL_s, zo_n, zo_s]
      · rw [b5 q (by omega)]; simp (disch := omega) only [w_ne, w_at, wl_ne, wl_at, wc_ne, wc_at, upd_at, upd_ne, upl_at, upl_ne, cpy_in0, zn_cl, zn_add, zn_mul, zn_sub, zn_pm, br_tt, br_ff, br_ltT, br_ltF, br_leT, br_leF, br_eqT, br_eqF, br_eqs, br_eqm, br_eqm', br_ltm, br_mlt, br_lem, br_mle, br_oiF, br_lgge, br_lgle, br_lggt, br_lglt, br_lgeq, br_zb, br_zb1, bV_s, bI_s, bL_s, zo_n, zo_s]
    · obtain ⟨m', b1, b2, b3, b4, b5⟩ := ih (i + 1) f m (by omega) (by omega)
      refine ⟨m', ?_, b2, b3, fun q q1 q2 => ?_, fun q hq => b5 q (by omega)⟩
      · rw [e_Ways_cheerAll_2]; simp (disch := omega) only [w_ne, w_at, wl_ne, wl_at, wc_ne, wc_at, upd_at, upd_ne, upl_at, upl_ne, cpy_in0, zn_cl, zn_add, zn_mul, zn_sub, zn_pm, br_tt, br_ff, br_ltT, br_ltF, br_leT, br_leF, br_eqT, br_eqF, br_eqs, br_eqm, br_eqm', br_ltm, br_mlt, br_lem, br_mle, br_oiF, br_lgge, br_lgle, br_lggt, br_lglt, br_lgeq, br_zb, br_zb1, bV_s, bI_s, bL_s, zo_n, zo_s, br_eq, if_neg g]; exact b1
      · by_cases e : q = i
        · subst e; rw [b5 q (by omega), if_neg g]
        · exact b4 q (by omega) q2
/-- where a lamp stands in the order -/
theorem fd_mem {l : List Nat} {a : Nat} (hl : ∀ x, x ∈ l → x < 1000) (ha : a < 1000) (r : Nat) : ∀ i, i + r = l.length → a ∈ l.drop i → ∃ j, sp_fd (fun i => l.getD i 0) (zn a) r i = zn j ∧ i ≤ j ∧ j < l.length ∧ l.getD j 0 = a := by
  induction r with
  | zero => intro i h1 h2; rw [List.drop_eq_nil_of_le (by omega)] at h2; cases h2
  | succ r ih =>
    intro i h1 h2
    rw [drop_getD l i 0 (by omega)] at h2
    have hm := hl _ (getD_mem l i 0 (by omega))
    rw [sp_fd]
    by_cases e : l.getD i 0 = a
    · exact ⟨i, by rw [if_pos (by rw [e])], by omega, by omega, e⟩
    · rw [if_neg (by show ¬ zn (l.getD i 0) = zn a; rw [zn_inj (by omega) (by omega)]; exact e)]
      rcases List.mem_cons.mp h2 with q | q
      · exact absurd q.symm e
      · obtain ⟨j, j1, j2, j3, j4⟩ := ih (i + 1) (by omega) q
        exact ⟨j, j1, by omega, j3, j4⟩
theorem erase_filter {a : Nat} (l : List Nat) : ∀ j, l.Nodup → j < l.length → l.getD j 0 = a → l.eraseIdx j = l.filter (fun x => decide (some x ≠ some a)) := by
  induction l with
  | nil => intro j _ h; exact absurd h (by simp)
  | cons b l ih =>
    intro j hn h e
    rw [List.nodup_cons] at hn
    cases j with
    | zero =>
      simp only [List.getD_cons_zero] at e
      subst e
      rw [List.eraseIdx_cons_zero, List.filter_cons_of_neg (by simp)]
      rw [List.filter_eq_self.mpr]
      intro x hx
      simp only [ne_eq, Option.some.injEq, decide_not, Bool.not_eq_true', decide_eq_false_iff_not]
      intro q; subst q; exact hn.1 hx
    | succ j =>
      simp only [List.getD_cons_succ] at e
      rw [List.eraseIdx_cons_succ, List.filter_cons_of_pos, ih j hn.2 (by simpa using h) e]
      simp only [ne_eq, Option.some.injEq, decide_not, Bool.not_eq_true', decide_eq_false_iff_not]
      intro q; subst q
      exact hn.1 (e ▸ getD_mem l j 0 (by simpa using h))
