/-! who meets whom -/
def sp_fm (mt : List (Nat × Nat)) (p : Nat × Nat) : Nat → Nat → Option Nat
  | 0, _ => none
  | r + 1, i => if mt.getD i (0, 0) = p then some i else sp_fm mt p r (i + 1)
theorem pair_iff {p : Nat × Nat} {a b : Nat} (hp : p.1 < p.2) : p = (min a b, max a b) ↔ (p.1 = a ∧ p.2 = b) ∨ (p.1 = b ∧ p.2 = a) := by
  rw [Prod.ext_iff]
  show p.1 = min a b ∧ p.2 = max a b ↔ _
  omega
theorem lp_pair {mt : List (Nat × Nat)} {a b d : Nat} {m : am_M} (hl : mt.length ≤ 10) (hm : ∀ p, p ∈ mt → p.1 < p.2 ∧ p.2 < 5) (ha : a < 5) (hb : b < 5) (hs : ∀ i, i < mt.length → (m.1 76 i = zn (mt.getD i (0, 0)).1 ∧ m.1 77 i = zn (mt.getD i (0, 0)).2) ∨ (m.1 76 i = zn (mt.getD i (0, 0)).2 ∧ m.1 77 i = zn (mt.getD i (0, 0)).1)) (r : Nat) :
    ∀ i f, i + r = mt.length → r < f → r_C_findPair_76_77_3 d f (zn mt.length) (zn a) (zn b) (zn i) m = some (some (.int (zo (sp_fm mt (min a b, max a b) r i))), m) := by
  induction r with
  | zero =>
    intro i f h1 h2
    obtain ⟨f, rfl⟩ : ∃ g, f = g + 1 := ⟨f - 1, by omega⟩
    rw [e_C_findPair_76_77_3]; simp (disch := omega) only [w_ne, w_at, wl_ne, wl_at, wc_ne, wc_at, upd_at, upd_ne, upl_at, upl_ne, cpy_in0, zn_cl, zn_add, zn_mul, zn_sub, zn_pm, br_tt, br_ff, br_ltT, br_ltF, br_leT, br_leF, br_eqT, br_eqF, br_eqs, br_eqm, br_eqm', br_ltm, br_mlt, br_lem, br_mle, br_oiF, br_lgge, br_lgle, br_lggt, br_lglt, br_lgeq, br_zb, br_zb1, bV_s, bI_s, bL_s, zo_n, zo_s]; rfl
  | succ r ih =>
    intro i f h1 h2
    obtain ⟨f, rfl⟩ : ∃ g, f = g + 1 := ⟨f - 1, by omega⟩
    have hp := hm _ (getD_mem mt i (0, 0) (by omega))
    have ih1 := ih (i + 1) f (by omega) (by omega)
    have pi := pair_iff (a := a) (b := b) hp.1
    rw [sp_fm, e_C_findPair_76_77_3]
    have hsi := hs i (by omega)
    generalize mt.getD i (0, 0) = p at hp pi hsi ⊢
    obtain ⟨u, v⟩ := p
    simp only at hp pi hsi
    have fin : ∀ x y : Nat, x < 5 → y < 5 → ((x = u ∧ y = v) ∨ (x = v ∧ y = u)) → m.1 76 i = zn x → m.1 77 i = zn y → (am_b (am_le (zn mt.length) (zn i)) (some (some (.int zm), m)) (am_b (am_le (zn 10) (zn i)) (some (some (.int zm), m)) (am_b (am_oi (zn i) 10) none (am_b (am_eq (m.1 76 (zn i).toNatClampNeg) (zn a)) (am_b (am_oi (zn i) 10) none (am_b (am_eq (m.1 77 (zn i).toNatClampNeg) (zn b)) (some (some (.int (zn i)), m)) (am_b (am_oi (zn i) 10) none (am_b (am_eq (m.1 76 (zn i).toNatClampNeg) (zn b)) (am_b (am_oi (zn i) 10) none (am_b (am_eq (m.1 77 (zn i).toNatClampNeg) (zn a)) (some (some (.int (zn i)), m)) (r_C_findPair_76_77_3 d f (zn mt.length) (zn a) (zn b) (zn i + zn 1) m))) (r_C_findPair_76_77_3 d f (zn mt.length) (zn a) (zn b) (zn i + zn 1) m))))) (am_b (am_oi (zn i) 10) none (am_b (am_eq (m.1 76 (zn i).toNatClampNeg) (zn b)) (am_b (am_oi (zn i) 10) none (am_b (am_eq (m.1 77 (zn i).toNatClampNeg) (zn a)) (some (some (.int (zn i)), m)) (r_C_findPair_76_77_3 d f (zn mt.length) (zn a) (zn b) (zn i + zn 1) m))) (r_C_findPair_76_77_3 d f (zn mt.length) (zn a) (zn b) (zn i + zn 1) m))))))) = some (some (.int (zo (if (u, v) = (min a b, max a b) then some i else sp_fm mt (min a b, max a b) r (i + 1)))), m) := by
      intro x y hx hy hxy e1 e2
      by_cases c : (x = a ∧ y = b) ∨ (x = b ∧ y = a)
      · rw [if_pos (pi.mpr (by omega))]
        by_cases c1 : x = a <;> by_cases c2 : y = b <;> by_cases c3 : x = b <;> by_cases c4 : y = a <;> first
          | (exfalso; omega)
          | simp (disch := omega) only [w_ne, w_at, wl_ne, wl_at, wc_ne, wc_at, upd_at, upd_ne, upl_at, upl_ne, cpy_in0, zn_cl, zn_add, zn_mul, zn_sub, zn_pm, br_tt, br_ff, br_ltT, br_ltF, br_leT, br_leF, br_eqT, br_eqF, br_eqs, br_eqm, br_eqm', br_ltm, br_mlt, br_lem, br_mle, br_oiF, br_lgge, br_lgle, br_lggt, br_lglt, br_lgeq, br_zb, br_zb1, bV_s, bI_s, bL_s, zo_n, zo_s, e1, e2]
      · rw [if_neg (fun q => c (by have := pi.mp q; omega))]
        by_cases c1 : x = a <;> by_cases c2 : y = b <;> by_cases c3 : x = b <;> by_cases c4 : y = a <;> first
          | (exfalso; omega)
          | simp (disch := omega) only [w_ne, w_at, wl_ne, wl_at, wc_ne, wc_at, upd_at, upd_ne, upl_at, upl_ne, cpy_in0, zn_cl, zn_add, zn_mul, zn_sub, zn_pm, br_tt, br_ff, br_ltT, br_ltF, br_leT, br_leF, br_eqT, br_eqF, br_eqs, br_eqm, br_eqm', br_ltm, br_mlt, br_lem, br_mle, br_oiF, br_lgge, br_lgle, br_lggt, br_lglt, br_lgeq, br_zb, br_zb1, bV_s, bI_s, bL_s, zo_n, zo_s, e1, e2, ih1]
    rcases hsi with ⟨q1, q2⟩ | ⟨q1, q2⟩
    · exact fin u v (by omega) (by omega) (Or.inl ⟨rfl, rfl⟩) q1 q2
    · exact fin v u (by omega) (by omega) (Or.inr ⟨rfl, rfl⟩) q1 q2
theorem lq_pair {mt : List (Nat × Nat)} {a b d : Nat} {m : am_M} (hl : mt.length ≤ 10) (hm : ∀ p, p ∈ mt → p.1 < p.2 ∧ p.2 < 5) (ha : a < 5) (hb : b < 5) (h0 : m.1 107 55 = zn mt.length) (hs : ∀ i, i < mt.length → m.1 138 i = zn (mt.getD i (0, 0)).1 ∧ m.1 139 i = zn (mt.getD i (0, 0)).2) (r : Nat) :
    ∀ i f, i + r = mt.length → r < f → r_M_meetingOf_2 d f (zn a) (zn b) (zn i) m = some (some (.int (zo (sp_fm mt (min a b, max a b) r i))), m) := by
  induction r with
  | zero =>
    intro i f h1 h2
    obtain ⟨f, rfl⟩ : ∃ g, f = g + 1 := ⟨f - 1, by omega⟩
    rw [e_M_meetingOf_2]; simp (disch := omega) only [w_ne, w_at, wl_ne, wl_at, wc_ne, wc_at, upd_at, upd_ne, upl_at, upl_ne, cpy_in0, zn_cl, zn_add, zn_mul, zn_sub, zn_pm, br_tt, br_ff, br_ltT, br_ltF, br_leT, br_leF, br_eqT, br_eqF, br_eqs, br_eqm, br_eqm', br_ltm, br_mlt, br_lem, br_mle, br_oiF, br_lgge, br_lgle, br_lggt, br_lglt, br_lgeq, br_zb, br_zb1, bV_s, bI_s, bL_s, zo_n, zo_s, h0]; rfl
  | succ r ih =>
    intro i f h1 h2
    obtain ⟨f, rfl⟩ : ∃ g, f = g + 1 := ⟨f - 1, by omega⟩
    have hp := hm _ (getD_mem mt i (0, 0) (by omega))
    have ih1 := ih (i + 1) f (by omega) (by omega)
    have pi := pair_iff (a := a) (b := b) hp.1
    obtain ⟨e1, e2⟩ := hs i (by omega)
    rw [sp_fm, e_M_meetingOf_2]
    generalize mt.getD i (0, 0) = p at hp pi e1 e2 ⊢
    obtain ⟨x, y⟩ := p
    simp only at hp pi e1 e2
    by_cases c : (x = a ∧ y = b) ∨ (x = b ∧ y = a)
    · rw [if_pos (pi.mpr (by omega))]
      by_cases c1 : x = a <;> by_cases c2 : y = b <;> by_cases c3 : x = b <;> by_cases c4 : y = a <;> first
        | (exfalso; omega)
        | simp (disch := omega) only [w_ne, w_at, wl_ne, wl_at, wc_ne, wc_at, upd_at, upd_ne, upl_at, upl_ne, cpy_in0, zn_cl, zn_add, zn_mul, zn_sub, zn_pm, br_tt, br_ff, br_ltT, br_ltF, br_leT, br_leF, br_eqT, br_eqF, br_eqs, br_eqm, br_eqm', br_ltm, br_mlt, br_lem, br_mle, br_oiF, br_lgge, br_lgle, br_lggt, br_lglt, br_lgeq, br_zb, br_zb1, bV_s, bI_s, bL_s, zo_n, zo_s, h0, e1, e2]
    · rw [if_neg (fun q => c (by have := pi.mp q; omega))]
      by_cases c1 : x = a <;> by_cases c2 : y = b <;> by_cases c3 : x = b <;> by_cases c4 : y = a <;> first
        | (exfalso; omega)
        | simp (disch := omega) only [w_ne, w_at, wl_ne, wl_at, wc_ne, wc_at, upd_at, upd_ne, upl_at, upl_ne, cpy_in0, zn_cl, zn_add, zn_mul, zn_sub, zn_pm, br_tt, br_ff, br_ltT, br_ltF, br_leT, br_leF, br_eqT, br_eqF, br_eqs, br_eqm, br_eqm', br_ltm, br_mlt, br_lem, br_mle, br_oiF, br_lgge, br_lgle, br_lggt, br_lglt, br_lgeq, br_zb, br_zb1, bV_s, bI_s, bL_s, zo_n, zo_s, h0, e1, e2, ih1]
theorem s_findM {T G F : Td} {q : Sq} {w : List Nat} {day num d a b : Nat} {m : am_M} (c : Core T G F q w day num m) (ha : a < T 0 0) (hb : b < T 0 0) : am_c (d + 2) y_Scene_findMeeting [.ref 71, .int (zn a), .int (zn b)] m = some (some (.int (zo (sp_fm q.2.2.1 (min a b, max a b) q.2.2.1.length 0))), m) := by
  have := c.tw.n; have := c.qw.ml
  rw [n_Scene_findMeeting (Or.inr (Or.inr (Or.inl rfl))), c.sc.ml, n_C_findPair_76_77, lp_pair c.qw.ml (fun p hp => by have := c.qw.ms p hp; omega) (by omega) (by omega) c.sc.ms q.2.2.1.length 0 29999 (by omega) (by omega), bI_s]
theorem s_meetOf {T G F : Td} {q : Sq} {w : List Nat} {day num d a b : Nat} {m : am_M} (c : Core T G F q w day num m) (ha : a < T 0 0) (hb : b < T 0 0) : am_c (d + 1) y_M_meetingOf [.ref 107, .int (zn a), .int (zn b)] m = some (some (.int (zo (sp_fm q.2.2.1 (min a b, max a b) q.2.2.1.length 0))), m) := by
  have := c.tw.n; have := c.qw.ml
  rw [n_M_meetingOf, lq_pair c.qw.ml (fun p hp => by have := c.qw.ms p hp; omega) (by omega) (by omega) c.nr.ml c.nr.ms q.2.2.1.length 0 29999 (by omega) (by omega)]
theorem fm_self {mt : List (Nat × Nat)} {a : Nat} (hm : ∀ p, p ∈ mt → p.1 < p.2) (r : Nat) : ∀ i, i + r = mt.length → sp_fm mt (min a a, max a a) r i = none := by
  induction r with
  | zero => intro i _; rfl
  | succ r ih =>
    intro i h
    have := hm _ (getD_mem mt i (0, 0) (by omega))
    rw [sp_fm, if_neg (by intro e; rw [e] at this; simp at this), ih (i + 1) (by omega)]
theorem fm_lt {mt : List (Nat × Nat)} {p : Nat × Nat} (r : Nat) : ∀ i j, i + r = mt.length → sp_fm mt p r i = some j → i ≤ j ∧ j < mt.length ∧ mt.getD j (0, 0) = p := by
  induction r with
  | zero => intro i j _ h; cases h
  | succ r ih =>
    intro i j h e
    rw [sp_fm] at e
    by_cases g : mt.getD i (0, 0) = p
    · rw [if_pos g] at e; cases e; exact ⟨by omega, by omega, g⟩
    · rw [if_neg g] at e
      have := ih (i + 1) j (by omega) e
      exact ⟨by omega, this.2⟩
def is2 (T : Td) (x y : Int32) : Bool := isN (T 0 0) x && (isN (T 0 0) y && decide (x ≠ y))
theorem s_are2 {T G F : Td} {m : am_M} (c : tC T G F m) (W : tW T) {d : Nat} {x y : Int32} : am_c (d + 2) y_C_areTwoThings [.ref 0, .int x, .int y] m = some (some (.int (zb (is2 T x y))), m) := by
  rw [n_C_areTwoThings, s_isThingC c W, bI_s, br_zb, s_isThingC c W, bI_s, br_zb, br_eq]
  unfold is2
  cases isN (T 0 0) x
  · rfl
  · cases isN (T 0 0) y
    · rfl
    · by_cases e : x = y
      · rw [if_pos e, decide_eq_false (fun q => q e)]; rfl
      · rw [if_neg e, decide_eq_true e]; rfl
theorem is2_t {T : Td} {x y : Int32} (h : is2 T x y = true) : ∃ a b, a < T 0 0 ∧ b < T 0 0 ∧ a ≠ b ∧ x = zn a ∧ y = zn b := by
  unfold is2 at h
  rw [Bool.and_eq_true, Bool.and_eq_true, decide_eq_true_eq] at h
  obtain ⟨a, ha, rfl⟩ := isN_t h.1
  obtain ⟨b, hb, rfl⟩ := isN_t h.2.1
  exact ⟨a, b, ha, hb, fun e => h.2.2 (by rw [e]), rfl, rfl⟩
theorem k_meets (x y : Int32) : ask y_C_meets y_M_meets [.int x, .int y] := by
  refine ask_of fun T G F q w day num m c r => ?_
  have c2 := c.qR (fqR_th m (zn 0))
  have hml := c.qw.ml
  have i1 := s_are2 c.tc c.tw (d := 5) (x := x) (y := y)
  have i2 : ∀ x, am_c 7 y_M_isThing [.ref 107, .int x] (am_w m.1 107 2 (zn 0), m.2) = _ := fun x => s_isThingR c2.tr c.tw (d := 6) (x := x)
  cases e : is2 T x y with
  | false =>
    refine ⟨some (.int (zn 0)), m, ?_, fqC_refl m, fun c1 r1 => ⟨_, ?_, fqR_th m (zn 0)⟩⟩
    · rw [n_C_meets, i1, e]; rfl
    · rw [n_M_meets, i2, bI_s, br_zb, i2, bI_s, br_zb]
      unfold is2 at e
      cases ex : isN (T 0 0) x with
      | false => rfl
      | true =>
        cases ey : isN (T 0 0) y with
        | false => rfl
        | true =>
          rw [ex, ey] at e
          have hxy : x = y := by simpa using e
          obtain ⟨a, ha, rfl⟩ := isN_t ex
          rw [← hxy, if_pos rfl, if_pos rfl, s_meetOf c2 ha ha, fm_self (fun p hp => (c.qw.ms p hp).1) _ 0 (by omega), bI_s, zo_n, br_lt, zm_i, zn_i (by omega), if_pos (by omega)]
  | true =>
    obtain ⟨a, b, ha, hb, hab, rfl, rfl⟩ := is2_t e
    have f1 := s_findM c (d := 5) ha hb
    have f2 := s_meetOf c2 (d := 6) ha hb
    have g1 := isN_z ha (by have := c.tw.n; omega)
    have g2 := isN_z hb (by have := c.tw.n; omega)
    rcases opt_c (sp_fm q.2.2.1 (min a b, max a b) q.2.2.1.length 0) with h | ⟨j, h⟩
    · refine ⟨some (.int (zn 0)), m, ?_, fqC_refl m, fun c1 r1 => ⟨_, ?_, fqR_th m (zn 0)⟩⟩
      · rw [n_C_meets, i1, e, bI_s, br_zb, if_pos rfl, f1, h, bI_s, zo_n, br_eqs]
      · rw [n_M_meets, i2, g1, bI_s, br_zb, if_pos rfl, i2, g2, bI_s, br_zb, if_pos rfl, f2, h, bI_s, zo_n, br_lt, zm_i, zn_i (by omega), if_pos (by omega)]
    · have hj := fm_lt _ 0 j (by omega) h
      refine ⟨some (.int (zn 1)), m, ?_, fqC_refl m, fun c1 r1 => ⟨_, ?_, fqR_th m (zn 0)⟩⟩
      · rw [n_C_meets, i1, e, bI_s, br_zb, if_pos rfl, f1, h, bI_s, zo_s, br_eqm (by omega)]
      · rw [n_M_meets, i2, g1, bI_s, br_zb, if_pos rfl, i2, g2, bI_s, br_zb, if_pos rfl, f2, h, bI_s, zo_s, br_ltF (by omega) (by omega)]
