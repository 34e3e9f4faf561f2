/-! what is struck: class and reference -/
theorem nar_0 : vp_nar .boolean (zn 0) = zn 0 := by first | rfl | decide +kernel
theorem nar_1 : vp_nar .boolean (zn 1) = zn 1 := by first | rfl | decide +kernel
def zp : Nat → Int32
  | 0 => zm
  | i + 1 => zn i
theorem zp_sub (B : Nat) : zn B - zn 1 = zp B := by
  cases B with
  | zero => decide +kernel
  | succ b => rw [zn_sub (by omega), Nat.add_sub_cancel]; rfl
theorem zp_dec (i : Nat) : zn i + zm = zp i := by
  cases i with
  | zero => decide +kernel
  | succ b => rw [zn_pm (by omega), Nat.add_sub_cancel]; rfl
def sp_st (K : Nat → Bool) (j : Nat) : Nat → Bool := fun i => if i = j then true else K i
def sp_jd (S : Td) : Nat → (Nat → Bool) → (Nat → Bool)
  | 0, K => K
  | i + 1, K => sp_jd S i (if S 0 i = 0 ∧ K i = false then sp_st K (S 2 i) else K)
def sTb (n : Nat) (S : Td) (m : am_M) : Prop :=
  (n ≤ 24)
  ∧ (∀ k, k < n → S 0 k ≤ 20)
  ∧ (∀ k, k < n → S 0 k = 0 → S 2 k < k)
  ∧ (∀ k, k < n → m.1 98 k = zn (S 0 k))
  ∧ (∀ k, k < n → S 0 k = 0 → m.1 100 k = zn (S 2 k))
  ∧ (∀ k, k < n → S 0 k = 0 → m.1 148 (3 * k) = zm ∧ m.1 148 (3 * k + 1) = zn (S 2 k))
  ∧ (∀ k, k < n → S 0 k ≠ 0 → m.1 148 (3 * k) = zn (S 0 k))
theorem sTb.n {n : Nat} {S : Td} {m : am_M} (hZ : sTb n S m) : n ≤ 24 := hZ.1
theorem sTb.d {n : Nat} {S : Td} {m : am_M} (hZ : sTb n S m) : ∀ k, k < n → S 0 k ≤ 20 := hZ.2.1
theorem sTb.w {n : Nat} {S : Td} {m : am_M} (hZ : sTb n S m) : ∀ k, k < n → S 0 k = 0 → S 2 k < k := hZ.2.2.1
theorem sTb.c0 {n : Nat} {S : Td} {m : am_M} (hZ : sTb n S m) : ∀ k, k < n → m.1 98 k = zn (S 0 k) := hZ.2.2.2.1
theorem sTb.c1 {n : Nat} {S : Td} {m : am_M} (hZ : sTb n S m) : ∀ k, k < n → S 0 k = 0 → m.1 100 k = zn (S 2 k) := hZ.2.2.2.2.1
theorem sTb.r1 {n : Nat} {S : Td} {m : am_M} (hZ : sTb n S m) : ∀ k, k < n → S 0 k = 0 → m.1 148 (3 * k) = zm ∧ m.1 148 (3 * k + 1) = zn (S 2 k) := hZ.2.2.2.2.2.1
theorem sTb.r2 {n : Nat} {S : Td} {m : am_M} (hZ : sTb n S m) : ∀ k, k < n → S 0 k ≠ 0 → m.1 148 (3 * k) = zn (S 0 k) := hZ.2.2.2.2.2.2
theorem senX.tb {T : Td} {n : Nat} {o : Option Nat} {S : Td} {m : am_M} (s : senX T n o S m) : sTb n S m :=
  ⟨s.n, fun k hk => by by_cases e : S 0 k = 0; (· omega); (· exact (s.w1 k hk e).1), s.w0, s.c0, s.c1, s.r1, fun k hk e => (s.r2 k hk e).1⟩
theorem sTb.mono {n : Nat} {S : Td} {m m' : am_M} (s : sTb n S m) (e : ∀ c, c = 98 ∨ c = 100 ∨ c = 148 → m'.1 c = m.1 c) : sTb n S m' := by
  refine ⟨s.n, s.d, s.w, ?_, ?_, ?_, ?_⟩
  · rw [e 98 (by omega)]; exact s.c0
  · rw [e 100 (by omega)]; exact s.c1
  · rw [e 148 (by omega)]; exact s.r1
  · rw [e 148 (by omega)]; exact s.r2
theorem lp_jd {n d : Nat} {S : Td} (i : Nat) : ∀ (f : Nat) (K : Nat → Bool) (m : am_M), i ≤ n → i < f → sTb n S m → (∀ j, j < 24 → m.1 101 j = zb (K j)) →
    ∃ m', r_Memory_judge_28 d f (zp i) m = some (none, m') ∧ m'.2 = m.2 ∧ (∀ c, c ≠ 101 → m'.1 c = m.1 c) ∧ ∀ j, j < 24 → m'.1 101 j = zb (sp_jd S i K j) := by
  induction i with
  | zero =>
    intro f K m h1 h2 s hK
    obtain ⟨f, rfl⟩ : ∃ g, f = g + 1 := ⟨f - 1, by omega⟩
    refine ⟨m, ?_, rfl, fun _ _ => rfl, hK⟩
    rw [e_Memory_judge_28, zp, br_lt, zm_i, zn_i (by omega), if_pos (by omega)]
  | succ i ih =>
    intro f K m h1 h2 s hK
    obtain ⟨f, rfl⟩ : ∃ g, f = g + 1 := ⟨f - 1, by omega⟩
    have hn := s.n
    have hd := s.d i (by omega)
    rw [e_Memory_judge_28, zp, sp_jd, br_ltF (by omega) (by omega), br_oiF (by omega) (by omega), br_oiF (by omega) (by omega), br_oiF (by omega) (by omega), zn_cl (by omega), s.c0 i (by omega), hK i (by omega), zp_dec, nar_1]
    by_cases e : S 0 i = 0
    · rw [br_eqT e, br_zb]
      cases k : K i with
      | false =>
        have hw := s.w i (by omega) e
        obtain ⟨m', b1, b2, b3, b4⟩ := ih f (sp_st K (S 2 i)) (am_w m.1 101 (S 2 i) (zn 1), m.2) (by omega) (by omega) (s.mono (fun c hc => by simp (disch := omega) only [w_ne, w_at, wl_ne, wl_at, wc_ne, wc_at, upd_at, upd_ne, upl_at, upl_ne, cpy_in0, zn_cl, zn_add, zn_mul, zn_sub, zn_pm, br_tt, br_ff, br_ltT, br_ltF, br_leT, br_leF, br_eqT, br_eqF, br_eqs, br_eqm, br_eqm', br_ltm, br_mlt, br_lem, br_mle, br_oiF, br_lgge, br_lgle, br_lggt, br_lglt, br_lgeq, br_zb, br_zb1, bV_s, bI_s, bL_s, zo_n, zo_s])) (by
          intro j hj
          unfold sp_st
          by_cases q : j = S 2 i
          · rw [if_pos q, q]; simp (disch := omega) only [w_ne, w_at, wl_ne, wl_at, wc_ne, wc_at, upd_at, upd_ne, upl_at, upl_ne, cpy_in0, zn_cl, zn_add, zn_mul, zn_sub, zn_pm, br_tt, br_ff, br_ltT, br_ltF, br_leT, br_leF, br_eqT, br_eqF, br_eqs, br_eqm, br_eqm', br_ltm, br_mlt, br_lem, br_mle, br_oiF, br_lgge, br_lgle, br_lggt, br_lglt, br_lgeq, br_zb, br_zb1, bV_s, bI_s, bL_s, zo_n, zo_s]; rfl
          · rw [if_neg q]; simp (disch := omega) only [w_ne, w_at, wl_ne, wl_at, wc_ne, wc_at, upd_at, upd_ne, upl_at, upl_ne, cpy_in0, zn_cl, zn_add, zn_mul, zn_sub, zn_pm, br_tt, br_ff, br_ltT, br_ltF, br_leT, br_leF, br_eqT, br_eqF, br_eqs, br_eqm, br_eqm', br_ltm, br_mlt, br_lem, br_mle, br_oiF, br_lgge, br_lgle, br_lggt, br_lglt, br_lgeq, br_zb, br_zb1, bV_s, bI_s, bL_s, zo_n, zo_s]; exact hK j hj)
        rw [if_neg (by simp), if_pos ⟨e, rfl⟩, s.c1 i (by omega) e, br_oiF (by omega) (by omega), zn_cl (by omega)]
        exact ⟨m', b1, b2, fun c hc => by rw [b3 c hc]; simp (disch := omega) only [w_ne, w_at, wl_ne, wl_at, wc_ne, wc_at, upd_at, upd_ne, upl_at, upl_ne, cpy_in0, zn_cl, zn_add, zn_mul, zn_sub, zn_pm, br_tt, br_ff, br_ltT, br_ltF, br_leT, br_leF, br_eqT, br_eqF, br_eqs, br_eqm, br_eqm', br_ltm, br_mlt, br_lem, br_mle, br_oiF, br_lgge, br_lgle, br_lggt, br_lglt, br_lgeq, br_zb, br_zb1, bV_s, bI_s, bL_s, zo_n, zo_s], b4⟩
      | true =>
        obtain ⟨m', b1, b2, b3, b4⟩ := ih f K m (by omega) (by omega) s hK
        rw [if_pos rfl, if_neg (by simp)]
        exact ⟨m', b1, b2, b3, b4⟩
    · obtain ⟨m', b1, b2, b3, b4⟩ := ih f K m (by omega) (by omega) s hK
      rw [br_eqF e (by omega) (by omega), if_neg (fun q => e q.1)]
      exact ⟨m', b1, b2, b3, b4⟩
theorem lp_jd0 {d : Nat} (r : Nat) : ∀ (i f : Nat) (m : am_M), i + r = 24 → r < f → (∀ j, j < i → m.1 101 j = zb false) →
    ∃ f' m', r_Memory_judge_2 d f (zn i) m = r_Memory_judge_2 d (f' + 1) (zn 24) m' ∧ f ≤ f' + r + 1 ∧ m'.2 = m.2 ∧ (∀ c, c ≠ 101 → m'.1 c = m.1 c) ∧ ∀ j, j < 24 → m'.1 101 j = zb false := by
  induction r with
  | zero =>
    intro i f m h1 h2 h3
    refine ⟨f - 1, m, ?_, by omega, rfl, fun _ _ => rfl, fun j hj => h3 j (by omega)⟩
    rw [Nat.sub_add_cancel (by omega), show i = 24 from by omega]
  | succ r ih =>
    intro i f m h1 h2 h3
    obtain ⟨f, rfl⟩ : ∃ g, f = g + 1 := ⟨f - 1, by omega⟩
    obtain ⟨f', m', b1, b0, b2, b3, b4⟩ := ih (i + 1) f (am_w m.1 101 i (zn 0), m.2) (by omega) (by omega) (by
      intro j hj
      by_cases q : j = i
      · subst q; simp (disch := omega) only [w_ne, w_at, wl_ne, wl_at, wc_ne, wc_at, upd_at, upd_ne, upl_at, upl_ne, cpy_in0, zn_cl, zn_add, zn_mul, zn_sub, zn_pm, br_tt, br_ff, br_ltT, br_ltF, br_leT, br_leF, br_eqT, br_eqF, br_eqs, br_eqm, br_eqm', br_ltm, br_mlt, br_lem, br_mle, br_oiF, br_lgge, br_lgle, br_lggt, br_lglt, br_lgeq, br_zb, br_zb1, bV_s, bI_s, bL_s, zo_n, zo_s]; rfl
      · simp (disch := omega) only [w_ne, w_at, wl_ne, wl_at, wc_ne, wc_at, upd_at, upd_ne, upl_at, upl_ne, cpy_in0, zn_cl, zn_add, zn_mul, zn_sub, zn_pm, br_tt, br_ff, br_ltT, br_ltF, br_leT, br_leF, br_eqT, br_eqF, br_eqs, br_eqm, br_eqm', br_ltm, br_mlt, br_lem, br_mle, br_oiF, br_lgge, br_lgle, br_lggt, br_lglt, br_lgeq, br_zb, br_zb1, bV_s, bI_s, bL_s, zo_n, zo_s]; exact h3 j (by omega))
    refine ⟨f', m', ?_, by omega, b2, fun c hc => by rw [b3 c hc]; simp (disch := omega) only [w_ne, w_at, wl_ne, wl_at, wc_ne, wc_at, upd_at, upd_ne, upl_at, upl_ne, cpy_in0, zn_cl, zn_add, zn_mul, zn_sub, zn_pm, br_tt, br_ff, br_ltT, br_ltF, br_leT, br_leF, br_eqT, br_eqF, br_eqs, br_eqm, br_eqm', br_ltm, br_mlt, br_lem, br_mle, br_oiF, br_lgge, br_lgle, br_lggt, br_lglt, br_lgeq, br_zb, br_zb1, bV_s, bI_s, bL_s, zo_n, zo_s], b4⟩
    rw [e_Memory_judge_2, nar_0]
    simp (disch := omega) only [w_ne, w_at, wl_ne, wl_at, wc_ne, wc_at, upd_at, upd_ne, upl_at, upl_ne, cpy_in0, zn_cl, zn_add, zn_mul, zn_sub, zn_pm, br_tt, br_ff, br_ltT, br_ltF, br_leT, br_leF, br_eqT, br_eqF, br_eqs, br_eqm, br_eqm', br_ltm, br_mlt, br_lem, br_mle, br_oiF, br_lgge, br_lgle, br_lggt, br_lglt, br_lgeq, br_zb, br_zb1, bV_s, bI_s, bL_s, zo_n, zo_s]
    exact b1
def K0 : Nat → Bool := fun _ => false
theorem s_judge {T : Td} {n d : Nat} {o : Option Nat} {S : Td} {m : am_M} (s : senX T n o S m) : ∃ m', am_c (d + 2) y_Memory_judge [.ref 97] m = some (none, m') ∧ m'.2 = m.2 ∧ (∀ c, c ≠ 101 → m'.1 c = m.1 c) ∧ ∀ j, j < 24 → m'.1 101 j = zb (sp_jd S (sp_by n o) K0 j) := by
  have hn := s.n
  have hB : sp_by n o ≤ n := by cases h : o with | none => exact Nat.le_refl _ | some b => exact s.o b h
  obtain ⟨f', m1, a1, a0, a2, a3, a4⟩ := lp_jd0 (d := d + 1) 24 0 29999 m (by omega) (by omega) (fun j hj => by omega)
  have s1 : senX T n o S m1 := ⟨s.n, s.o, s.w0, s.w1, by rw [a3 97 (by omega)]; exact s.cn, by rw [a3 97 (by omega)]; exact s.co, by rw [a3 98 (by omega)]; exact s.c0, by rw [a3 100 (by omega)]; exact s.c1, by rw [a3 99 (by omega), a3 100 (by omega)]; exact s.c2, by rw [a3 107 (by omega)]; exact s.rn, by rw [a3 107 (by omega)]; exact s.ro, by rw [a3 148 (by omega)]; exact s.r1, by rw [a3 148 (by omega)]; exact s.r2⟩
  obtain ⟨m2, b1, b2, b3, b4⟩ := lp_jd (d := d + 1) (sp_by n o) f' K0 m1 hB (by omega) s1.tb a4
  refine ⟨m2, ?_, by rw [b2, a2], fun c hc => by rw [b3 c hc, a3 c hc], b4⟩
  rw [n_Memory_judge, a1, e_Memory_judge_2, br_leT (by omega) (by omega), s_countBy s1, bI_s, zp_sub, b1]
/-! the class: what is known -/
def sp_kn (S : Td) (K : Nat → Bool) (i : Nat) : Bool := decide (S 0 i ≠ 0 ∧ K i = false)
theorem s_isKnown {n d i : Nat} {S : Td} {K : Nat → Bool} {m : am_M} (s : sTb n S m) (hK : ∀ j, j < 24 → m.1 101 j = zb (K j)) (hi : i < n) : am_c (d + 1) y_Memory_isKnown [.ref 97, .int (zn i)] m = some (some (.int (zb (sp_kn S K i))), m) := by
  have hn := s.n; have hd := s.d i hi
  rw [n_Memory_isKnown, br_oiF (by omega) (by omega), br_oiF (by omega) (by omega), zn_cl (by omega), s.c0 i hi, hK i (by omega), br_zb]
  unfold sp_kn
  by_cases e : S 0 i = 0
  · rw [br_eqT e, decide_eq_false (fun q => q.1 e)]; rfl
  · rw [br_eqF e (by omega) (by omega)]
    cases k : K i with
    | false => rw [if_neg (by simp), decide_eq_true ⟨e, rfl⟩]; rfl
    | true => rw [if_pos rfl, decide_eq_false (fun q => by cases q.2)]; rfl
def sp_ld (S : Td) (K : Nat → Bool) : Nat → Nat → Nat → Nat
  | 0, _, a => a
  | r + 1, i, a => sp_ld S K r (i + 1) (if sp_kn S K i = true then max a (S 0 i) else a)
theorem ld_le {S : Td} {K : Nat → Bool} {n : Nat} (h : ∀ k, k < n → S 0 k ≤ 20) (r : Nat) : ∀ i a, i + r ≤ n → a ≤ 20 → sp_ld S K r i a ≤ 20 := by
  induction r with
  | zero => intro i a _ ha; exact ha
  | succ r ih => intro i a h1 ha; rw [sp_ld]; apply ih _ _ (by omega); have := h i (by omega); split <;> omega
theorem zn_max {a b : Nat} (ha : a < 2147483648) (hb : b < 2147483648) : am_imax (zn a) (zn b) = zn (max a b) := by
  unfold am_imax
  by_cases h : a < b
  · rw [if_pos (by rw [Int32.lt_iff_toInt_lt, zn_i ha, zn_i hb]; omega), Nat.max_eq_right (by omega)]
  · rw [if_neg (by rw [Int32.lt_iff_toInt_lt, zn_i ha, zn_i hb]; omega), Nat.max_eq_left (by omega)]
theorem lp_ld {T : Td} {n d : Nat} {o : Option Nat} {S : Td} {K : Nat → Bool} {m : am_M} (s : senX T n o S m) (hK : ∀ j, j < 24 → m.1 101 j = zb (K j)) (hB : sp_by n o ≤ n) (r : Nat) :
    ∀ i f a, i + r = sp_by n o → r < f → a ≤ 20 → r_Memory_lastDay_4 (d + 1) f (zn a) (zn i) m = some (some (.int (zn (sp_ld S K r i a))), m) := by
  have hn := s.n
  induction r with
  | zero =>
    intro i f a h1 h2 h3
    obtain ⟨f, rfl⟩ : ∃ g, f = g + 1 := ⟨f - 1, by omega⟩
    rw [e_Memory_lastDay_4, s_countBy s, bI_s, br_leT (by omega) (by omega)]; rfl
  | succ r ih =>
    intro i f a h1 h2 h3
    obtain ⟨f, rfl⟩ : ∃ g, f = g + 1 := ⟨f - 1, by omega⟩
    have hd := s.tb.d i (by omega)
    rw [e_Memory_lastDay_4, s_countBy s, bI_s, br_leF (by omega) (by omega), s_isKnown s.tb hK (by omega), bI_s, br_zb, sp_ld, zn_add, br_oiF (by omega) (by omega), zn_cl (by omega), s.c0 i (by omega), zn_max (by omega) (by omega)]
    cases e : sp_kn S K i with
    | false => rw [if_neg (by simp), if_neg (by simp), ih (i + 1) f a (by omega) (by omega) h3]
    | true => rw [if_pos rfl, if_pos rfl, ih (i + 1) f _ (by omega) (by omega) (by omega)]
/-- what is known of so many days is so -/
def sp_ag (T S : Td) (K : Nat → Bool) (h : Hs) (b : Nat) : Nat → Nat → Bool
  | 0, _ => true
  | r + 1, i => if sp_kn S K i = true ∧ S 0 i = b then (match h (S 1 i) with
    | none => false
    | some s => if T 6 s = sp_look (S 2 i) then sp_ag T S K h b r (i + 1) else false) else sp_ag T S K h b r (i + 1)
theorem mv_lt : ∀ a, a < 512 → sp_look a < 512 := by decide +kernel
theorem lp_ag {T G F : Td} {n d b : Nat} {o : Option Nat} {S : Td} {K : Nat → Bool} {h : Hs} {m : am_M} (s : senX T n o S m) (W : tW T) (hlk : ∀ i, i < T 0 0 → m.1 32 i = zn (T 6 i)) (hK : ∀ j, j < 24 → m.1 101 j = zb (K j)) (hB : sp_by n o ≤ n) (hb : b ≤ 20) (hs : ∀ i, i < T 0 0 → m.1 86 i = zo (h i)) (hh : ∀ i a, i < T 0 0 → h i = some a → a < T 0 0) (r : Nat) :
    ∀ i f x5, i + r = sp_by n o → r < f → r_Memory_agrees_3 85 (d + 1) f (zn b) (zn i) x5 m = some (some (.int (zb (sp_ag T S K h b r i))), m) := by
  have hn := s.n; have hn5 := W.n
  have hk : sc_k 85 := Or.inr (Or.inr (Or.inr (Or.inr rfl)))
  induction r with
  | zero =>
    intro i f x5 h1 h2
    obtain ⟨f, rfl⟩ : ∃ g, f = g + 1 := ⟨f - 1, by omega⟩
    rw [e_Memory_agrees_3 hk, s_countBy s, bI_s, br_leT (by omega) (by omega)]; rfl
  | succ r ih =>
    intro i f x5 h1 h2
    obtain ⟨f, rfl⟩ : ∃ g, f = g + 1 := ⟨f - 1, by omega⟩
    have hd := s.tb.d i (by omega)
    rw [e_Memory_agrees_3 hk, s_countBy s, bI_s, br_leF (by omega) (by omega), s_isKnown s.tb hK (by omega), bI_s, br_zb, sp_ag, zn_add, br_oiF (by omega) (by omega), br_oiF (by omega) (by omega), br_oiF (by omega) (by omega), zn_cl (by omega), s.c0 i (by omega)]
    cases e : sp_kn S K i with
    | false => rw [if_neg (by simp), if_neg (by simp), ih (i + 1) f x5 (by omega) (by omega)]
    | true =>
      rw [if_pos rfl]
      by_cases g : S 0 i = b
      · have h0 : S 0 i ≠ 0 := by unfold sp_kn at e; rw [decide_eq_true_eq] at e; exact e.1
        have w1 := s.w1 i (by omega) h0
        have c2 := s.c2 i (by omega) h0
        rw [if_pos ⟨rfl, g⟩, br_eqT g, c2.1, c2.2, br_oiF (by omega) (by omega), zn_cl (by omega)]
        rw [show (85 + 1 : Nat) = 86 from rfl, hs _ w1.2.1]
        rcases opt_c (h (S 1 i)) with q | ⟨a, q⟩
        · rw [q, zo_n, br_eqs]; rfl
        · have ha := hh _ a w1.2.1 q
          have l1 := W.lk a ha; have l2 := mv_lt (S 2 i) w1.2.2
          rw [q, zo_s, br_eqm (by omega), br_oiF (by omega) (by omega), zn_cl (by omega), hlk a ha]
          by_cases p : T 6 a = sp_look (S 2 i)
          · rw [br_eqT p, ih (i + 1) f _ (by omega) (by omega)]
            show (_ : am_R) = some (some (Value.int (zb (if T 6 a = sp_look (S 2 i) then sp_ag T S K h b r (i + 1) else false))), m)
            rw [if_pos p]
          · rw [br_eqF p (by omega) (by omega)]
            show (_ : am_R) = some (some (Value.int (zb (if T 6 a = sp_look (S 2 i) then sp_ag T S K h b r (i + 1) else false))), m)
            rw [if_neg p]; rfl
      · rw [if_neg (fun q => g q.2), br_eqF g (by omega) (by omega), ih (i + 1) f x5 (by omega) (by omega)]
/-! the reference -/
theorem lq_c0 {T : Td} {n d : Nat} {o : Option Nat} {S : Td} {x1 : Int32} (hB : sp_by n o ≤ n) (r : Nat) : ∀ (i f : Nat) (m : am_M), i + r = sp_by n o → r < f → senX T n o S m → (∀ j, j < i → m.1 149 j = zb true) →
    ∃ f' m', r_M_rules_9 (d + 1) f x1 (zn i) m = r_M_rules_9 (d + 1) (f' + 1) x1 (zn (sp_by n o)) m' ∧ f ≤ f' + r + 1 ∧ m'.2 = m.2 ∧ (∀ c, c ≠ 149 → m'.1 c = m.1 c) ∧ ∀ j, j < sp_by n o → m'.1 149 j = zb true := by
  induction r with
  | zero =>
    intro i f m h1 h2 s h3
    refine ⟨f - 1, m, ?_, by omega, rfl, fun _ _ => rfl, fun j hj => h3 j (by omega)⟩
    rw [Nat.sub_add_cancel (by omega), show i = sp_by n o from by omega]
  | succ r ih =>
    intro i f m h1 h2 s h3
    have hn := s.n
    obtain ⟨f, rfl⟩ : ∃ g, f = g + 1 := ⟨f - 1, by omega⟩
    have s1 : senX T n o S (am_w m.1 149 i (zn 1), m.2) := ⟨s.n, s.o, s.w0, s.w1, by simp (disch := omega) only [w_ne, w_at, wl_ne, wl_at, wc_ne, wc_at, upd_at, upd_ne, upl_at, upl_ne, cpy_in0, zn_cl, zn_add, zn_mul, zn_sub, zn_pm, br_tt, br_ff, br_ltT, br_ltF, br_leT, br_leF, br_eqT, br_eqF, br_eqs, br_eqm, br_eqm', br_ltm, br_mlt, br_lem, br_mle, br_oiF, br_lgge, br_lgle, br_lggt, br_lglt, br_lgeq, br_zb, br_zb1, bV_s, bI_s, bL_s, zo_n, zo_s, s.cn], by simp (disch := omega) only [w_ne, w_at, wl_ne, wl_at, wc_ne, wc_at, upd_at, upd_ne, upl_at, upl_ne, cpy_in0, zn_cl, zn_add, zn_mul, zn_sub, zn_pm, br_tt, br_ff, br_ltT, br_ltF, br_leT, br_leF, br_eqT, br_eqF, br_eqs, br_eqm, br_eqm', br_ltm, br_mlt, br_lem, br_mle, br_oiF, br_lgge, br_lgle, br_lggt, br_lglt, br_lgeq, br_zb, br_zb1, bV_s, bI_s, bL_s, zo_n, zo_s, s.co], by simp (disch := omega) only [w_ne, w_at, wl_ne, wl_at, wc_ne, wc_at, upd_at, upd_ne, upl_at, upl_ne, cpy_in0, zn_cl, zn_add, zn_mul, zn_sub, zn_pm, br_tt, br_ff, br_ltT, br_ltF, br_leT, br_leF, br_eqT, br_eqF, br_eqs, br_eqm, br_eqm', br_ltm, br_mlt, br_lem, br_mle, br_oiF, br_lgge, br_lgle, br_lggt, br_lglt, br_lgeq, br_zb, br_zb1, bV_s, bI_s, bL_s, zo_n, zo_s]; exact s.c0, by simp (disch := omega) only [w_ne, w_at, wl_ne, wl_at, wc_ne, wc_at, upd_at, upd_ne, upl_at, upl_ne, cpy_in0, zn_cl, zn_add, zn_mul, zn_sub, zn_pm, br_tt, br_ff, br_ltT, br_ltF, br_leT, br_leF, br_eqT, br_eqF, br_eqs, br_eqm, br_eqm', br_ltm, br_mlt, br_lem, br_mle, br_oiF, br_lgge, br_lgle, br_lggt, br_lglt, br_lgeq, br_zb, br_zb1, bV_s, bI_s, bL_s, zo_n, zo_s]; exact s.c1, by simp (disch := omega) only [w_ne, w_at, wl_ne, wl_at, wc_ne, wc_at, upd_at, upd_ne, upl_at, upl_ne, cpy_in0, zn_cl, zn_add, zn_mul, zn_sub, zn_pm, br_tt, br_ff, br_ltT, br_ltF, br_leT, br_leF, br_eqT, br_eqF, br_eqs, br_eqm, br_eqm', br_ltm, br_mlt, br_lem, br_mle, br_oiF, br_lgge, br_lgle, br_lggt, br_lglt, br_lgeq, br_zb, br_zb1, bV_s, bI_s, bL_s, zo_n, zo_s]; exact s.c2, by simp (disch := omega) only [w_ne, w_at, wl_ne, wl_at, wc_ne, wc_at, upd_at, upd_ne, upl_at, upl_ne, cpy_in0, zn_cl, zn_add, zn_mul, zn_sub, zn_pm, br_tt, br_ff, br_ltT, br_ltF, br_leT, br_leF, br_eqT, br_eqF, br_eqs, br_eqm, br_eqm', br_ltm, br_mlt, br_lem, br_mle, br_oiF, br_lgge, br_lgle, br_lggt, br_lglt, br_lgeq, br_zb, br_zb1, bV_s, bI_s, bL_s, zo_n, zo_s, s.rn], by simp (disch := omega) only [w_ne, w_at, wl_ne, wl_at, wc_ne, wc_at, upd_at, upd_ne, upl_at, upl_ne, cpy_in0, zn_cl, zn_add, zn_mul, zn_sub, zn_pm, br_tt, br_ff, br_ltT, br_ltF, br_leT, br_leF, br_eqT, br_eqF, br_eqs, br_eqm, br_eqm', br_ltm, br_mlt, br_lem, br_mle, br_oiF, br_lgge, br_lgle, br_lggt, br_lglt, br_lgeq, br_zb, br_zb1, bV_s, bI_s, bL_s, zo_n, zo_s, s.ro], by simp (disch := omega) only [w_ne, w_at, wl_ne, wl_at, wc_ne, wc_at, upd_at, upd_ne, upl_at, upl_ne, cpy_in0, zn_cl, zn_add, zn_mul, zn_sub, zn_pm, br_tt, br_ff, br_ltT, br_ltF, br_leT, br_leF, br_eqT, br_eqF, br_eqs, br_eqm, br_eqm', br_ltm, br_mlt, br_lem, br_mle, br_oiF, br_lgge, br_lgle, br_lggt, br_lglt, br_lgeq, br_zb, br_zb1, bV_s, bI_s, bL_s, zo_n, zo_s]; exact s.r1, by simp (disch := omega) only [w_ne, w_at, wl_ne, wl_at, wc_ne, wc_at, upd_at, upd_ne, upl_at, upl_ne, cpy_in0, zn_cl, zn_add, zn_mul, zn_sub, zn_pm, br_tt, br_ff, br_ltT, br_ltF, br_leT, br_leF, br_eqT, br_eqF, br_eqs, br_eqm, br_eqm', br_ltm, br_mlt, br_lem, br_mle, br_oiF, br_lgge, br_lgle, br_lggt, br_lglt, br_lgeq, br_zb, br_zb1, bV_s, bI_s, bL_s, zo_n, zo_s]; exact s.r2⟩
    obtain ⟨f', m', b1, b0, b2, b3, b4⟩ := ih (i + 1) f (am_w m.1 149 i (zn 1), m.2) (by omega) (by omega) s1 (by
      intro j hj
      by_cases q : j = i
      · subst q; simp (disch := omega) only [w_ne, w_at, wl_ne, wl_at, wc_ne, wc_at, upd_at, upd_ne, upl_at, upl_ne, cpy_in0, zn_cl, zn_add, zn_mul, zn_sub, zn_pm, br_tt, br_ff, br_ltT, br_ltF, br_leT, br_leF, br_eqT, br_eqF, br_eqs, br_eqm, br_eqm', br_ltm, br_mlt, br_lem, br_mle, br_oiF, br_lgge, br_lgle, br_lggt, br_lglt, br_lgeq, br_zb, br_zb1, bV_s, bI_s, bL_s, zo_n, zo_s]; rfl
      · simp (disch := omega) only [w_ne, w_at, wl_ne, wl_at, wc_ne, wc_at, upd_at, upd_ne, upl_at, upl_ne, cpy_in0, zn_cl, zn_add, zn_mul, zn_sub, zn_pm, br_tt, br_ff, br_ltT, br_ltF, br_leT, br_leF, br_eqT, br_eqF, br_eqs, br_eqm, br_eqm', br_ltm, br_mlt, br_lem, br_mle, br_oiF, br_lgge, br_lgle, br_lggt, br_lglt, br_lgeq, br_zb, br_zb1, bV_s, bI_s, bL_s, zo_n, zo_s]; exact h3 j (by omega))
    refine ⟨f', m', ?_, by omega, b2, fun c hc => by rw [b3 c hc]; simp (disch := omega) only [w_ne, w_at, wl_ne, wl_at, wc_ne, wc_at, upd_at, upd_ne, upl_at, upl_ne, cpy_in0, zn_cl, zn_add, zn_mul, zn_sub, zn_pm, br_tt, br_ff, br_ltT, br_ltF, br_leT, br_leF, br_eqT, br_eqF, br_eqs, br_eqm, br_eqm', br_ltm, br_mlt, br_lem, br_mle, br_oiF, br_lgge, br_lgle, br_lggt, br_lglt, br_lgeq, br_zb, br_zb1, bV_s, bI_s, bL_s, zo_n, zo_s], b4⟩
    rw [e_M_rules_9, nar_1, s_knownBy s, bI_s, br_leF (by omega) (by omega), br_oiF (by omega) (by omega), zn_cl (by omega), zn_add, b1]
theorem lq_jd {n d B : Nat} {S : Td} {x1 : Int32} (hB : B ≤ n) (i : Nat) : ∀ (f : Nat) (K : Nat → Bool) (m : am_M), i ≤ B → i < f → sTb n S m → (∀ j, j < B → m.1 149 j = zb (!K j)) →
    ∃ f' m', r_M_rules_37 d f x1 (zp i) m = r_M_rules_85 d f' x1 (zn 0) m' ∧ f ≤ f' + i + 1 ∧ m'.2 = m.2 ∧ (∀ c, c ≠ 149 → m'.1 c = m.1 c) ∧ ∀ j, j < B → m'.1 149 j = zb (!(sp_jd S i K j)) := by
  induction i with
  | zero =>
    intro f K m h1 h2 s hK
    obtain ⟨f, rfl⟩ : ∃ g, f = g + 1 := ⟨f - 1, by omega⟩
    refine ⟨f, m, ?_, by omega, rfl, fun _ _ => rfl, hK⟩
    rw [e_M_rules_37, zp, br_lt, zm_i, zn_i (by omega), if_pos (by omega)]
  | succ i ih =>
    intro f K m h1 h2 s hK
    obtain ⟨f, rfl⟩ : ∃ g, f = g + 1 := ⟨f - 1, by omega⟩
    have hn := s.n
    have hd := s.d i (by omega)
    rw [e_M_rules_37, zp, sp_jd, br_ltF (by omega) (by omega), br_oiF (by omega) (by omega), zn_mul, zn_add, br_oiF (by omega) (by omega), br_oiF (by omega) (by omega), zn_cl (by omega), zn_cl (by omega), zn_cl (by omega), hK i (by omega), zp_dec, nar_0, br_zb]
    cases k : K i with
    | true =>
      obtain ⟨f', m', b1, b0, b2, b3, b4⟩ := ih f K m (by omega) (by omega) s hK
      rw [if_neg (by simp), if_neg (by simp)]
      exact ⟨f', m', b1, by omega, b2, b3, b4⟩
    | false =>
      rw [if_pos (by simp)]
      by_cases e : S 0 i = 0
      · have hw := s.w i (by omega) e
        have r1 := s.r1 i (by omega) e
        obtain ⟨f', m', b1, b0, b2, b3, b4⟩ := ih f (sp_st K (S 2 i)) (am_w m.1 149 (S 2 i) (zn 0), m.2) (by omega) (by omega) (s.mono (fun c hc => by simp (disch := omega) only [w_ne, w_at, wl_ne, wl_at, wc_ne, wc_at, upd_at, upd_ne, upl_at, upl_ne, cpy_in0, zn_cl, zn_add, zn_mul, zn_sub, zn_pm, br_tt, br_ff, br_ltT, br_ltF, br_leT, br_leF, br_eqT, br_eqF, br_eqs, br_eqm, br_eqm', br_ltm, br_mlt, br_lem, br_mle, br_oiF, br_lgge, br_lgle, br_lggt, br_lglt, br_lgeq, br_zb, br_zb1, bV_s, bI_s, bL_s, zo_n, zo_s])) (by
          intro j hj
          unfold sp_st
          by_cases q : j = S 2 i
          · rw [if_pos q, q]; simp (disch := omega) only [w_ne, w_at, wl_ne, wl_at, wc_ne, wc_at, upd_at, upd_ne, upl_at, upl_ne, cpy_in0, zn_cl, zn_add, zn_mul, zn_sub, zn_pm, br_tt, br_ff, br_ltT, br_ltF, br_leT, br_leF, br_eqT, br_eqF, br_eqs, br_eqm, br_eqm', br_ltm, br_mlt, br_lem, br_mle, br_oiF, br_lgge, br_lgle, br_lggt, br_lglt, br_lgeq, br_zb, br_zb1, bV_s, bI_s, bL_s, zo_n, zo_s]; rfl
          · rw [if_neg q]; simp (disch := omega) only [w_ne, w_at, wl_ne, wl_at, wc_ne, wc_at, upd_at, upd_ne, upl_at, upl_ne, cpy_in0, zn_cl, zn_add, zn_mul, zn_sub, zn_pm, br_tt, br_ff, br_ltT, br_ltF, br_leT, br_leF, br_eqT, br_eqF, br_eqs, br_eqm, br_eqm', br_ltm, br_mlt, br_lem, br_mle, br_oiF, br_lgge, br_lgle, br_lggt, br_lglt, br_lgeq, br_zb, br_zb1, bV_s, bI_s, bL_s, zo_n, zo_s]; exact hK j hj)
        rw [if_pos ⟨e, rfl⟩, r1.1, r1.2, br_le, zm_i, zn_i (by omega), if_neg (by omega), br_oiF (by omega) (by omega), zn_cl (by omega)]
        exact ⟨f', m', b1, by omega, b2, fun c hc => by rw [b3 c hc]; simp (disch := omega) only [w_ne, w_at, wl_ne, wl_at, wc_ne, wc_at, upd_at, upd_ne, upl_at, upl_ne, cpy_in0, zn_cl, zn_add, zn_mul, zn_sub, zn_pm, br_tt, br_ff, br_ltT, br_ltF, br_leT, br_leF, br_eqT, br_eqF, br_eqs, br_eqm, br_eqm', br_ltm, br_mlt, br_lem, br_mle, br_oiF, br_lgge, br_lgle, br_lggt, br_lglt, br_lgeq, br_zb, br_zb1, bV_s, bI_s, bL_s, zo_n, zo_s], b4⟩
      · obtain ⟨f', m', b1, b0, b2, b3, b4⟩ := ih f K m (by omega) (by omega) s hK
        rw [if_neg (fun q => e q.1), s.r2 i (by omega) e, br_leT (by omega) (by omega)]
        exact ⟨f', m', b1, by omega, b2, b3, b4⟩
theorem lq_ld {T : Td} {n d : Nat} {o : Option Nat} {S : Td} {K : Nat → Bool} {m : am_M} (s : senX T n o S m) (hK : ∀ j, j < sp_by n o → m.1 149 j = zb (!K j)) (hB : sp_by n o ≤ n) (r : Nat) :
    ∀ i f a, i + r = sp_by n o → r < f → a ≤ 20 → ∃ f', r_M_rules_85 (d + 1) f (zn a) (zn i) m = r_M_rules_85 (d + 1) (f' + 1) (zn (sp_ld S K r i a)) (zn (sp_by n o)) m ∧ f ≤ f' + r + 1 := by
  have hn := s.n
  induction r with
  | zero =>
    intro i f a h1 h2 h3
    refine ⟨f - 1, ?_, by omega⟩
    rw [Nat.sub_add_cancel (by omega), show i = sp_by n o from by omega]; rfl
  | succ r ih =>
    intro i f a h1 h2 h3
    obtain ⟨f, rfl⟩ : ∃ g, f = g + 1 := ⟨f - 1, by omega⟩
    have hd := s.tb.d i (by omega)
    rw [e_M_rules_85, s_knownBy s, bI_s, br_leF (by omega) (by omega), br_oiF (by omega) (by omega), zn_mul, br_oiF (by omega) (by omega), br_oiF (by omega) (by omega), zn_cl (by omega), zn_cl (by omega), hK i (by omega), br_zb, sp_ld, zn_add]
    cases k : K i with
    | true =>
      obtain ⟨f', b1, b2⟩ := ih (i + 1) f a (by omega) (by omega) h3
      rw [if_neg (by simp), if_neg (by unfold sp_kn; rw [decide_eq_true_eq, k]; simp)]
      exact ⟨f', b1, by omega⟩
    | false =>
      rw [if_pos (by simp)]
      by_cases e : S 0 i = 0
      · obtain ⟨f', b1, b2⟩ := ih (i + 1) f a (by omega) (by omega) h3
        rw [if_neg (by unfold sp_kn; rw [decide_eq_true_eq]; exact fun q => q.1 e), (s.r1 i (by omega) e).1, br_le, zm_i, zn_i (by omega), if_pos (by omega)]
        exact ⟨f', b1, by omega⟩
      · rw [if_pos (by unfold sp_kn; rw [decide_eq_true_eq]; exact ⟨e, k⟩), (s.r2 i (by omega) e).1]
        by_cases g : S 0 i ≤ a
        · obtain ⟨f', b1, b2⟩ := ih (i + 1) f a (by omega) (by omega) h3
          rw [br_leT g (by omega), Nat.max_eq_left g]
          exact ⟨f', b1, by omega⟩
        · obtain ⟨f', b1, b2⟩ := ih (i + 1) f (S 0 i) (by omega) (by omega) hd
          rw [br_leF (by omega) (by omega), Nat.max_eq_right (by omega)]
          exact ⟨f', b1, by omega⟩
theorem lq_ag {T G F : Td} {n d b : Nat} {o : Option Nat} {S : Td} {K : Nat → Bool} {h : Hs} {m : am_M} (s : senX T n o S m) (c : tR T G F m) (W : tW T) (hK : ∀ j, j < sp_by n o → m.1 149 j = zb (!K j)) (hB : sp_by n o ≤ n) (hb0 : 1 ≤ b) (hb : b ≤ 20) (hs : ∀ i, i < T 0 0 → m.1 132 (5 + i) = zo (h i)) (hh : ∀ i a, i < T 0 0 → h i = some a → a < T 0 0) (r : Nat) :
    ∀ i f x3, i + r = sp_by n o → r < f → r_M_isSo_2 (d + 2) f (zn b) (zn i) x3 m = some (some (.int (zb (sp_ag T S K h b r i))), m) := by
  have hn := s.n; have hn5 := W.n
  induction r with
  | zero =>
    intro i f x3 h1 h2
    obtain ⟨f, rfl⟩ : ∃ g, f = g + 1 := ⟨f - 1, by omega⟩
    rw [e_M_isSo_2, s_knownBy s, bI_s, br_leT (by omega) (by omega)]; rfl
  | succ r ih =>
    intro i f x3 h1 h2
    obtain ⟨f, rfl⟩ : ∃ g, f = g + 1 := ⟨f - 1, by omega⟩
    have hd := s.tb.d i (by omega)
    rw [e_M_isSo_2, s_knownBy s, bI_s, br_leF (by omega) (by omega), br_oiF (by omega) (by omega), zn_mul, zn_add, zn_add, zn_add, br_oiF (by omega) (by omega), br_oiF (by omega) (by omega), zn_cl (by omega), zn_cl (by omega), zn_cl (by omega), hK i (by omega), br_zb, sp_ag]
    cases k : K i with
    | true =>
      rw [if_neg (by simp), if_neg (by unfold sp_kn; rw [decide_eq_true_eq, k]; simp), ih (i + 1) f x3 (by omega) (by omega)]
    | false =>
      rw [if_pos (by simp)]
      by_cases e : S 0 i = 0
      · rw [if_neg (by unfold sp_kn; rw [decide_eq_true_eq]; exact fun q => q.1.1 e), (s.r1 i (by omega) e).1, br_eqm' (by omega), ih (i + 1) f x3 (by omega) (by omega)]
      · have r2 := s.r2 i (by omega) e
        have w1 := s.w1 i (by omega) e
        rw [r2.1]
        by_cases g : S 0 i = b
        · rw [if_pos (by unfold sp_kn; rw [decide_eq_true_eq]; exact ⟨⟨e, k⟩, g⟩), br_eqT g, r2.2.1, zn_add, br_oiF (by omega) (by omega), zn_cl (by omega), hs _ w1.2.1]
          rcases opt_c (h (S 1 i)) with q | ⟨a, q⟩
          · rw [q, zo_n, br_lt, zm_i, zn_i (by omega), if_pos (by omega)]; rfl
          · have ha := hh _ a w1.2.1 q
            have l1 := W.lk a ha; have l2 := mv_lt (S 2 i) w1.2.2; have l3 := W.sh a ha
            rw [q, zo_s, br_ltF (by omega) (by omega), br_oiF (by omega) (by omega), zn_cl (by omega), c.sh a ha, s_lookR l3, bI_s, br_oiF (by omega) (by omega), zn_cl (by omega), r2.2.2, s_lookR w1.2.2, bI_s, ← W.ll a ha]
            by_cases p : T 6 a = sp_look (S 2 i)
            · rw [br_eqT p, ih (i + 1) f _ (by omega) (by omega)]
              show (_ : am_R) = some (some (Value.int (zb (if T 6 a = sp_look (S 2 i) then sp_ag T S K h b r (i + 1) else false))), m)
              rw [if_pos p]
            · rw [br_eqF p (by omega) (by omega)]
              show (_ : am_R) = some (some (Value.int (zb (if T 6 a = sp_look (S 2 i) then sp_ag T S K h b r (i + 1) else false))), m)
              rw [if_neg p]; rfl
        · rw [if_neg (fun q => g q.2), br_eqF g (by omega) (by omega), ih (i + 1) f x3 (by omega) (by omega)]
