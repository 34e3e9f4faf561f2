/-! laws: worked out by the reference -/
def vr (o : Option Int64) (m : am_M) (r : am_R) : Prop := ∃ y m', r = some (some (.long y), m') ∧ m'.2 = m.2 ∧ (∀ c, c ≠ 107 → m'.1 c = m.1 c) ∧ (∀ i, i ≠ 48 → m'.1 107 i = m.1 107 i) ∧ ((m.1 107 48 = zn 0 ∧ o = some y ∧ m'.1 107 48 = zn 0) ∨ (m'.1 107 48 = zn 1 ∧ (m.1 107 48 = zn 1 ∨ o = none)))
theorem vr_same {y : Int64} {m : am_M} (h : m.1 107 48 = zn 0 ∨ m.1 107 48 = zn 1) : vr (some y) m (some (some (.long y), m)) := by
  refine ⟨y, m, rfl, rfl, fun _ _ => rfl, fun _ _ => rfl, ?_⟩
  rcases h with h | h
  · exact Or.inl ⟨h, rfl, h⟩
  · exact Or.inr ⟨h, Or.inl h⟩
theorem vr_w0 {y : Int64} {m : am_M} {o : Option Int64} (h : m.1 107 48 = zn 0) (e : o = some y) : vr o m (some (some (.long y), (am_w m.1 107 48 (zn 0), m.2))) := by
  refine ⟨y, _, rfl, rfl, fun c hc => ?_, fun i hi => ?_, Or.inl ⟨h, e, ?_⟩⟩ <;> simp (disch := omega) only [w_ne, w_at, wl_ne, wl_at, wc_ne, wc_at, upd_at, upd_ne, upl_at, upl_ne, cpy_in0, zn_cl, zn_add, zn_mul, zn_sub, zn_pm, br_tt, br_ff, br_ltT, br_ltF, br_leT, br_leF, br_eqT, br_eqF, br_eqs, br_eqm, br_eqm', br_ltm, br_mlt, br_lem, br_mle, br_oiF, br_lgge, br_lgle, br_lggt, br_lglt, br_lgeq, br_zb, br_zb1, bV_s, bI_s, bL_s, zo_n, zo_s]
theorem vr_w1 {y : Int64} {m : am_M} {o : Option Int64} (h : m.1 107 48 = zn 1 ∨ o = none) : vr o m (some (some (.long y), (am_w m.1 107 48 (zn 1), m.2))) := by
  refine ⟨y, _, rfl, rfl, fun c hc => ?_, fun i hi => ?_, Or.inr ⟨?_, h⟩⟩ <;> simp (disch := omega) only [w_ne, w_at, wl_ne, wl_at, wc_ne, wc_at, upd_at, upd_ne, upl_at, upl_ne, cpy_in0, zn_cl, zn_add, zn_mul, zn_sub, zn_pm, br_tt, br_ff, br_ltT, br_ltF, br_leT, br_leF, br_eqT, br_eqF, br_eqs, br_eqm, br_eqm', br_ltm, br_mlt, br_lem, br_mle, br_oiF, br_lgge, br_lgle, br_lggt, br_lglt, br_lgeq, br_zb, br_zb1, bV_s, bI_s, bL_s, zo_n, zo_s]
theorem s_bounded {d : Nat} {x : Int64} {m : am_M} (h : m.1 107 48 = zn 0 ∨ m.1 107 48 = zn 1) : vr (if 1000000000000 < x then none else if -1000000000000 ≤ x then some x else none) m (am_c (d + 1) y_M_bounded [.ref 107, .long x] m) := by
  rw [n_M_bounded]
  rcases h with h | h
  · simp (disch := omega) only [w_ne, w_at, wl_ne, wl_at, wc_ne, wc_at, upd_at, upd_ne, upl_at, upl_ne, cpy_in0, zn_cl, zn_add, zn_mul, zn_sub, zn_pm, br_tt, br_ff, br_ltT, br_ltF, br_leT, br_leF, br_eqT, br_eqF, br_eqs, br_eqm, br_eqm', br_ltm, br_mlt, br_lem, br_mle, br_oiF, br_lgge, br_lgle, br_lggt, br_lglt, br_lgeq, br_zb, br_zb1, bV_s, bI_s, bL_s, zo_n, zo_s, h]
    by_cases g1 : 1000000000000 < x
    · rw [if_pos g1, if_pos g1]; exact vr_w1 (Or.inr rfl)
    · rw [if_neg g1, if_neg g1]
      by_cases g2 : -1000000000000 ≤ x
      · rw [if_pos g2, if_pos g2]; exact vr_w0 h rfl
      · rw [if_neg g2, if_neg g2]; exact vr_w1 (Or.inr rfl)
  · simp (disch := omega) only [w_ne, w_at, wl_ne, wl_at, wc_ne, wc_at, upd_at, upd_ne, upl_at, upl_ne, cpy_in0, zn_cl, zn_add, zn_mul, zn_sub, zn_pm, br_tt, br_ff, br_ltT, br_ltF, br_leT, br_leF, br_eqT, br_eqF, br_eqs, br_eqm, br_eqm', br_ltm, br_mlt, br_lem, br_mle, br_oiF, br_lgge, br_lgle, br_lggt, br_lglt, br_lgeq, br_zb, br_zb1, bV_s, bI_s, bL_s, zo_n, zo_s, h]; exact vr_w1 (Or.inl h)
theorem neg_ne0 {a : Int64} (h : ¬ a = 0) : ¬ -a = 0 := fun e => h (by
  have q := @Int64.neg_neg a
  rw [e] at q; rw [← q]; rfl)
theorem s_timesE {d : Nat} {a b : Int64} {m : am_M} {o : Option Int64} (h : m.1 107 48 = zn 1) : vr o m (am_c (d + 1) y_M_times [.ref 107, .long a, .long b] m) := by
  have e : r_M_times_48 d 29999 a b m = some (some (.long 0), (am_w m.1 107 48 (zn 1), m.2)) := by
    rw [e_M_times_48 d 29998]; simp (disch := omega) only [w_ne, w_at, wl_ne, wl_at, wc_ne, wc_at, upd_at, upd_ne, upl_at, upl_ne, cpy_in0, zn_cl, zn_add, zn_mul, zn_sub, zn_pm, br_tt, br_ff, br_ltT, br_ltF, br_leT, br_leF, br_eqT, br_eqF, br_eqs, br_eqm, br_eqm', br_ltm, br_mlt, br_lem, br_mle, br_oiF, br_lgge, br_lgle, br_lggt, br_lglt, br_lgeq, br_zb, br_zb1, bV_s, bI_s, bL_s, zo_n, zo_s, h]
  have V : vr o m (some (some (.long 0), (am_w m.1 107 48 (zn 1), m.2))) := vr_w1 (Or.inl h)
  rw [n_M_times]
  simp (disch := omega) only [w_ne, w_at, wl_ne, wl_at, wc_ne, wc_at, upd_at, upd_ne, upl_at, upl_ne, cpy_in0, zn_cl, zn_add, zn_mul, zn_sub, zn_pm, br_tt, br_ff, br_ltT, br_ltF, br_leT, br_leF, br_eqT, br_eqF, br_eqs, br_eqm, br_eqm', br_ltm, br_mlt, br_lem, br_mle, br_oiF, br_lgge, br_lgle, br_lggt, br_lglt, br_lgeq, br_zb, br_zb1, bV_s, bI_s, bL_s, zo_n, zo_s, h, br_el, e]
  by_cases g1 : a = 0
  · rw [if_pos g1]; exact V
  · have g2 := neg_ne0 g1
    simp only [g1, g2, if_false]
    repeat' split
    all_goals exact V
theorem s_times {d : Nat} {a b : Int64} {m : am_M} (h : m.1 107 48 = zn 0) (ha : bd a) (hb : bd b) : vr (jn 13 a b) m (am_c (d + 1) y_M_times [.ref 107, .long a, .long b] m) := by
  have e : r_M_times_48 d 29999 a b m = some (some (.long (a * b)), (am_w m.1 107 48 (zn 0), m.2)) := by
    rw [e_M_times_48 d 29998]; simp (disch := omega) only [w_ne, w_at, wl_ne, wl_at, wc_ne, wc_at, upd_at, upd_ne, upl_at, upl_ne, cpy_in0, zn_cl, zn_add, zn_mul, zn_sub, zn_pm, br_tt, br_ff, br_ltT, br_ltF, br_leT, br_leF, br_eqT, br_eqF, br_eqs, br_eqm, br_eqm', br_ltm, br_mlt, br_lem, br_mle, br_oiF, br_lgge, br_lgle, br_lggt, br_lglt, br_lgeq, br_zb, br_zb1, bV_s, bI_s, bL_s, zo_n, zo_s, h]
  rw [n_M_times]
  simp (disch := omega) only [w_ne, w_at, wl_ne, wl_at, wc_ne, wc_at, upd_at, upd_ne, upl_at, upl_ne, cpy_in0, zn_cl, zn_add, zn_mul, zn_sub, zn_pm, br_tt, br_ff, br_ltT, br_ltF, br_leT, br_leF, br_eqT, br_eqF, br_eqs, br_eqm, br_eqm', br_ltm, br_mlt, br_lem, br_mle, br_oiF, br_lgge, br_lgle, br_lggt, br_lglt, br_lgeq, br_zb, br_zb1, bV_s, bI_s, bL_s, zo_n, zo_s, h, br_el, e]
  unfold jn
  simp only [Nat.reduceEqDiff, if_false, if_true]
  by_cases g1 : a = 0
  · simp only [g1, if_true]; rw [← g1]; exact vr_w0 h (by rw [g1])
  · have g2 := neg_ne0 g1
    simp only [g1, g2, if_false]
    have la : am_labs a = if (0 : Int64) ≤ a then a else -a := by
      unfold am_labs
      by_cases q : (0 : Int64) < a
      · rw [if_pos q, if_pos (by rw [Int64.le_iff_toInt_le]; rw [Int64.lt_iff_toInt_lt] at q; omega)]
      · rw [if_neg q, if_neg (by rw [Int64.le_iff_toInt_le]; rw [Int64.lt_iff_toInt_lt] at q; have := i64_ne g1; rw [l0] at q ⊢; omega)]
    by_cases g3 : b = 0
    · have hz : am_labs b ≤ 1000000000000 / am_labs a := by
        rw [g3]
        have e0 : am_labs 0 = 0 := rfl
        have li := labs_i ha
        have a0 := i64_ne g1
        rw [e0, Int64.le_iff_toInt_le, Int64.toInt_div, l0, lz]
        unfold bd at ha
        generalize (am_labs a).toInt = A at li
        have hA : 0 < A ∧ A ≤ 1000000000000 := by split at li <;> omega
        have h5 : (1000000000000 : Int).tdiv A = 1000000000000 / A := Int.tdiv_eq_ediv_of_nonneg (by omega)
        have h6 : 0 ≤ (1000000000000 : Int) / A := Int.ediv_nonneg (by omega) (by omega)
        have h7 : (1000000000000 : Int) / A ≤ 1000000000000 := Int.ediv_le_self _ (by omega)
        rw [h5, Int.bmod_eq_of_le (by omega) (by omega)]
        exact h6
      rw [if_pos g3, if_pos hz]
      exact vr_w0 h rfl
    · have lb : am_labs b = if (0 : Int64) ≤ b then b else -b := by
        unfold am_labs
        by_cases q : (0 : Int64) < b
        · rw [if_pos q, if_pos (by rw [Int64.le_iff_toInt_le]; rw [Int64.lt_iff_toInt_lt] at q; omega)]
        · rw [if_neg q, if_neg (by rw [Int64.le_iff_toInt_le]; rw [Int64.lt_iff_toInt_lt] at q; have := i64_ne g3; rw [l0] at q ⊢; omega)]
      rw [if_neg g3]
      have key : ∀ x y : Int64, am_labs b = x → am_labs a = y → vr (if am_labs b ≤ 1000000000000 / am_labs a then some (a * b) else none) m (if x ≤ 1000000000000 / y then some (some (.long (a * b)), (am_w m.1 107 48 (zn 0), m.2)) else some (some (.long 0), (am_w m.1 107 48 (zn 1), m.2))) := by
        intro x y q1 q2
        rw [q1, q2]
        by_cases q : x ≤ 1000000000000 / y
        · rw [if_pos q, if_pos q]; exact vr_w0 h rfl
        · rw [if_neg q, if_neg q]; exact vr_w1 (Or.inr rfl)
      by_cases s1 : (0 : Int64) ≤ b
      · by_cases s2 : (0 : Int64) ≤ a
        · rw [if_pos s1, if_pos s2]; exact key b a (by rw [lb, if_pos s1]) (by rw [la, if_pos s2])
        · rw [if_pos s1, if_neg s2]; exact key b (-a) (by rw [lb, if_pos s1]) (by rw [la, if_neg s2])
      · by_cases s2 : (0 : Int64) ≤ a
        · rw [if_neg s1, if_pos s2]; exact key (-b) a (by rw [lb, if_neg s1]) (by rw [la, if_pos s2])
        · rw [if_neg s1, if_neg s2]; exact key (-b) (-a) (by rw [lb, if_neg s1]) (by rw [la, if_neg s2])
theorem s_compares {d q : Nat} {a b : Int64} {m : am_M} (h5 : 5 ≤ q) (h10 : q ≤ 10) : ∃ c : Bool, am_c (d + 1) y_M_compares [.int (zn q), .long a, .long b] m = some (some (.int (zb c)), m) ∧ jn q a b = some (if c = true then 1 else 0) := by
  rw [n_M_compares]
  unfold jn
  by_cases q5 : q = 5
  · subst q5
    simp (disch := omega) only [↓br_eqT, ↓br_eqF, br_lgge, br_lgle, br_lggt, br_lglt, br_lgeq, Nat.reduceEqDiff, if_false, if_true]
    by_cases g : b ≤ a
    · exact ⟨false, by rw [if_pos g]; rfl, by rw [if_pos g]; rfl⟩
    · exact ⟨true, by rw [if_neg g]; rfl, by rw [if_neg g]; rfl⟩
  by_cases q6 : q = 6
  · subst q6
    simp (disch := omega) only [↓br_eqT, ↓br_eqF, br_lgge, br_lgle, br_lggt, br_lglt, br_lgeq, Nat.reduceEqDiff, if_false, if_true]
    by_cases g : b < a
    · exact ⟨false, by rw [if_pos g]; rfl, by rw [if_pos g]; rfl⟩
    · exact ⟨true, by rw [if_neg g]; rfl, by rw [if_neg g]; rfl⟩
  by_cases q7 : q = 7
  · subst q7
    simp (disch := omega) only [↓br_eqT, ↓br_eqF, br_lgge, br_lgle, br_lggt, br_lglt, br_lgeq, Nat.reduceEqDiff, if_false, if_true]
    by_cases g : a = b
    · exact ⟨true, by rw [if_pos g]; rfl, by rw [if_pos g]; rfl⟩
    · exact ⟨false, by rw [if_neg g]; rfl, by rw [if_neg g]; rfl⟩
  by_cases q8 : q = 8
  · subst q8
    simp (disch := omega) only [↓br_eqT, ↓br_eqF, br_lgge, br_lgle, br_lggt, br_lglt, br_lgeq, Nat.reduceEqDiff, if_false, if_true]
    by_cases g : a = b
    · exact ⟨false, by rw [if_pos g]; rfl, by rw [if_pos g]; rfl⟩
    · exact ⟨true, by rw [if_neg g]; rfl, by rw [if_neg g]; rfl⟩
  by_cases q9 : q = 9
  · subst q9
    simp (disch := omega) only [↓br_eqT, ↓br_eqF, br_lgge, br_lgle, br_lggt, br_lglt, br_lgeq, Nat.reduceEqDiff, if_false, if_true]
    by_cases g : a < b
    · exact ⟨false, by rw [if_pos g]; rfl, by rw [if_pos g]; rfl⟩
    · exact ⟨true, by rw [if_neg g]; rfl, by rw [if_neg g]; rfl⟩
  by_cases q10 : q = 10
  · subst q10
    simp (disch := omega) only [↓br_eqT, ↓br_eqF, br_lgge, br_lgle, br_lggt, br_lglt, br_lgeq, Nat.reduceEqDiff, if_false, if_true]
    by_cases g : a ≤ b
    · exact ⟨false, by rw [if_pos g]; rfl, by rw [if_pos g]; rfl⟩
    · exact ⟨true, by rw [if_neg g]; rfl, by rw [if_neg g]; rfl⟩
  exfalso; omega
theorem s_valueOf {d j : Nat} {G : Td} {m : am_M} (hj : j < 64) (k0 : m.1 125 j = zn (G 0 j)) (k1 : m.1 126 j = zn (G 1 j)) (k2 : 3 ≤ G 0 j → m.1 127 j = zn (G 2 j)) (hq : G 0 j ≤ 14) (p1 : G 0 j = 1 → G 1 j < 7) (p2 : 2 ≤ G 0 j → G 1 j < 64) (p3 : 3 ≤ G 0 j → G 2 j < 64)
    (h : m.1 107 48 = zn 1 ∨ (m.1 107 48 = zn 0 ∧ (3 ≤ G 0 j → bd (m.2 131 (G 1 j)) ∧ bd (m.2 131 (G 2 j))))) : vr (nvl G (m.2 130) (m.2 131) j) m (am_c (d + 2) y_M_valueOf [.ref 107, .int (zn j)] m) := by
  have h48 : m.1 107 48 = zn 0 ∨ m.1 107 48 = zn 1 := by
    rcases h with h | h
    · exact Or.inr h
    · exact Or.inl h.1
  rw [n_M_valueOf]
  simp only [zn_cl (show j < 2147483648 from by omega), k0, k1]
  unfold nvl
  by_cases q0 : G 0 j = 0
  · rw [q0]
    simp (disch := omega) only [↓br_oiF, ↓br_eqT, ↓br_eqF, if_true]
    exact vr_same h48
  rw [if_neg q0]
  by_cases q1 : G 0 j = 1
  · have := p1 q1
    rw [q1]
    simp (disch := omega) only [↓br_oiF, ↓br_eqT, ↓br_eqF, if_true, zn_cl]
    exact vr_same h48
  rw [if_neg q1]
  have b1 := p2 (by omega)
  by_cases q2 : G 0 j = 2
  · rw [q2]
    simp (disch := omega) only [↓br_oiF, ↓br_eqT, ↓br_eqF, if_true, zn_cl, br_lgeq]
    by_cases g : m.2 131 (G 1 j) = 0
    · rw [if_pos g, if_pos g]; exact vr_same h48
    · rw [if_neg g, if_neg g]; exact vr_same h48
  rw [if_neg q2]
  have b2 := p3 (by omega)
  rw [k2 (by omega)]
  by_cases q3 : G 0 j = 3
  · rw [q3]
    simp (disch := omega) only [↓br_oiF, ↓br_eqT, ↓br_eqF, if_true, zn_cl, br_lgeq, br_el, br_zb]
    by_cases g1 : m.2 131 (G 1 j) = 0
    · by_cases g2 : m.2 131 (G 2 j) = 0
      · simp only [if_pos g1, if_pos g2]; exact (by unfold jn; simp [g1, g2] : jn 3 (m.2 131 (G 1 j)) (m.2 131 (G 2 j)) = some 0) ▸ vr_same h48
      · simp only [if_pos g1, if_neg g2]; exact (by unfold jn; simp [g1, g2] : jn 3 (m.2 131 (G 1 j)) (m.2 131 (G 2 j)) = some 0) ▸ vr_same h48
    · by_cases g2 : m.2 131 (G 2 j) = 0
      · simp only [if_neg g1, if_pos g2]; exact (by unfold jn; simp [g1, g2] : jn 3 (m.2 131 (G 1 j)) (m.2 131 (G 2 j)) = some 0) ▸ vr_same h48
      · simp only [if_neg g1, if_neg g2]; exact (by unfold jn; simp [g1, g2] : jn 3 (m.2 131 (G 1 j)) (m.2 131 (G 2 j)) = some 1) ▸ vr_same h48
  by_cases q4 : G 0 j = 4
  · rw [q4]
    simp (disch := omega) only [↓br_oiF, ↓br_eqT, ↓br_eqF, if_true, zn_cl, br_lgeq, br_el, br_zb]
    by_cases g1 : m.2 131 (G 1 j) = 0
    · by_cases g2 : m.2 131 (G 2 j) = 0
      · simp only [if_pos g1, if_pos g2]; exact (by unfold jn; simp [g1, g2] : jn 4 (m.2 131 (G 1 j)) (m.2 131 (G 2 j)) = some 0) ▸ vr_same h48
      · simp only [if_pos g1, if_neg g2]; exact (by unfold jn; simp [g1, g2] : jn 4 (m.2 131 (G 1 j)) (m.2 131 (G 2 j)) = some 1) ▸ vr_same h48
    · by_cases g2 : m.2 131 (G 2 j) = 0
      · simp only [if_neg g1, if_pos g2]; exact (by unfold jn; simp [g1, g2] : jn 4 (m.2 131 (G 1 j)) (m.2 131 (G 2 j)) = some 1) ▸ vr_same h48
      · simp only [if_neg g1, if_neg g2]; exact (by unfold jn; simp [g1, g2] : jn 4 (m.2 131 (G 1 j)) (m.2 131 (G 2 j)) = some 1) ▸ vr_same h48
  by_cases q5 : G 0 j = 5
  · rw [q5]
    simp (disch := omega) only [↓br_oiF, ↓br_eqT, ↓br_eqF, if_true, zn_cl, br_lgeq, br_el, br_zb]
    obtain ⟨c, e1, e2⟩ := s_compares (d := d) (q := 5) (a := m.2 131 (G 1 j)) (b := m.2 131 (G 2 j)) (m := m) (by omega) (by omega)
    rw [e1, e2, bI_s, br_zb]
    cases c
    · exact vr_same h48
    · exact vr_same h48
  by_cases q6 : G 0 j = 6
  · rw [q6]
    simp (disch := omega) only [↓br_oiF, ↓br_eqT, ↓br_eqF, if_true, zn_cl, br_lgeq, br_el, br_zb]
    obtain ⟨c, e1, e2⟩ := s_compares (d := d) (q := 6) (a := m.2 131 (G 1 j)) (b := m.2 131 (G 2 j)) (m := m) (by omega) (by omega)
    rw [e1, e2, bI_s, br_zb]
    cases c
    · exact vr_same h48
    · exact vr_same h48
  by_cases q7 : G 0 j = 7
  · rw [q7]
    simp (disch := omega) only [↓br_oiF, ↓br_eqT, ↓br_eqF, if_true, zn_cl, br_lgeq, br_el, br_zb]
    obtain ⟨c, e1, e2⟩ := s_compares (d := d) (q := 7) (a := m.2 131 (G 1 j)) (b := m.2 131 (G 2 j)) (m := m) (by omega) (by omega)
    rw [e1, e2, bI_s, br_zb]
    cases c
    · exact vr_same h48
    · exact vr_same h48
  by_cases q8 : G 0 j = 8
  · rw [q8]
    simp (disch := omega) only [↓br_oiF, ↓br_eqT, ↓br_eqF, if_true, zn_cl, br_lgeq, br_el, br_zb]
    obtain ⟨c, e1, e2⟩ := s_compares (d := d) (q := 8) (a := m.2 131 (G 1 j)) (b := m.2 131 (G 2 j)) (m := m) (by omega) (by omega)
    rw [e1, e2, bI_s, br_zb]
    cases c
    · exact vr_same h48
    · exact vr_same h48
  by_cases q9 : G 0 j = 9
  · rw [q9]
    simp (disch := omega) only [↓br_oiF, ↓br_eqT, ↓br_eqF, if_true, zn_cl, br_lgeq, br_el, br_zb]
    obtain ⟨c, e1, e2⟩ := s_compares (d := d) (q := 9) (a := m.2 131 (G 1 j)) (b := m.2 131 (G 2 j)) (m := m) (by omega) (by omega)
    rw [e1, e2, bI_s, br_zb]
    cases c
    · exact vr_same h48
    · exact vr_same h48
  by_cases q10 : G 0 j = 10
  · rw [q10]
    simp (disch := omega) only [↓br_oiF, ↓br_eqT, ↓br_eqF, if_true, zn_cl, br_lgeq, br_el, br_zb]
    obtain ⟨c, e1, e2⟩ := s_compares (d := d) (q := 10) (a := m.2 131 (G 1 j)) (b := m.2 131 (G 2 j)) (m := m) (by omega) (by omega)
    rw [e1, e2, bI_s, br_zb]
    cases c
    · exact vr_same h48
    · exact vr_same h48
  by_cases q11 : G 0 j = 11
  · rw [q11]
    simp (disch := omega) only [↓br_oiF, ↓br_eqT, ↓br_eqF, if_true, zn_cl, br_lgeq, br_el, br_zb]
    obtain ⟨y, m', e1, e2⟩ := s_bounded (d := d) (x := m.2 131 (G 1 j) + m.2 131 (G 2 j)) h48
    rw [e1, bL_s]
    exact ⟨y, m', rfl, (by unfold jn; simp only [Nat.reduceEqDiff, if_false, if_true]; exact e2)⟩
  by_cases q12 : G 0 j = 12
  · rw [q12]
    simp (disch := omega) only [↓br_oiF, ↓br_eqT, ↓br_eqF, if_true, zn_cl, br_lgeq, br_el, br_zb]
    obtain ⟨y, m', e1, e2⟩ := s_bounded (d := d) (x := m.2 131 (G 1 j) - m.2 131 (G 2 j)) h48
    rw [e1, bL_s]
    exact ⟨y, m', rfl, (by unfold jn; simp only [Nat.reduceEqDiff, if_false, if_true]; exact e2)⟩
  by_cases q13 : G 0 j = 13
  · rw [q13]
    simp (disch := omega) only [↓br_oiF, ↓br_eqT, ↓br_eqF, if_true, zn_cl, br_lgeq, br_el, br_zb]
    have V : vr (jn 13 (m.2 131 (G 1 j)) (m.2 131 (G 2 j))) m (am_c (d + 1) y_M_times [.ref 107, .long (m.2 131 (G 1 j)), .long (m.2 131 (G 2 j))] m) := by
      rcases h with h | ⟨h, g⟩
      · exact s_timesE h
      · exact s_times h (g (by omega)).1 (g (by omega)).2
    obtain ⟨y, m', e1, e2⟩ := V
    rw [e1, bL_s]
    exact ⟨y, m', rfl, e2⟩
  by_cases q14 : G 0 j = 14
  · rw [q14]
    simp (disch := omega) only [↓br_oiF, ↓br_eqT, ↓br_eqF, if_true, zn_cl, br_lgeq, br_el, br_zb]
    rcases h48 with h48 | h48
    · simp (disch := omega) only [w_ne, w_at, wl_ne, wl_at, wc_ne, wc_at, upd_at, upd_ne, upl_at, upl_ne, cpy_in0, zn_cl, zn_add, zn_mul, zn_sub, zn_pm, br_tt, br_ff, br_ltT, br_ltF, br_leT, br_leF, br_eqT, br_eqF, br_eqs, br_eqm, br_eqm', br_ltm, br_mlt, br_lem, br_mle, br_oiF, br_lgge, br_lgle, br_lggt, br_lglt, br_lgeq, br_zb, br_zb1, bV_s, bI_s, bL_s, zo_n, zo_s, h48]
      by_cases g : m.2 131 (G 2 j) = 0
      · simp only [if_pos g]; exact vr_w1 (Or.inr (by unfold jn; simp only [Nat.reduceEqDiff, if_false, if_pos g]))
      · simp only [if_neg g]; exact vr_w0 h48 (by unfold jn; simp only [Nat.reduceEqDiff, if_false, if_neg g])
    · simp (disch := omega) only [w_ne, w_at, wl_ne, wl_at, wc_ne, wc_at, upd_at, upd_ne, upl_at, upl_ne, cpy_in0, zn_cl, zn_add, zn_mul, zn_sub, zn_pm, br_tt, br_ff, br_ltT, br_ltF, br_leT, br_leF, br_eqT, br_eqF, br_eqs, br_eqm, br_eqm', br_ltm, br_mlt, br_lem, br_mle, br_oiF, br_lgge, br_lgle, br_lggt, br_lglt, br_lgeq, br_zb, br_zb1, bV_s, bI_s, bL_s, zo_n, zo_s, h48]
      exact vr_w1 (Or.inl h48)
  exfalso; omega
