/-! laws: worked out by the class -/
theorem wk_not {d f K t k : Nat} {x1 : Int32} {x5 : Option Value} {m : am_M} (ht : t < 64) :
    b_Laws_work d f (K + 40) 95 [some (.ref 39), some (.int x1), some (.int (zn (t + 1))), some (.int (zn k)), some (.int (zn 17)), x5, none] [] m = r_Laws_work_9 d f x1 (zn (t + 1)) (zn (k + 1)) (some (.int (zn 17))) x5 (m.1, am_wl m.2 45 t (if m.2 45 t = 0 then 1 else 0)) := by
  rw [b_Laws_work_95, b_Laws_work_96, br_leF (by omega) (by omega), b_Laws_work_99, b_Laws_work_101, b_Laws_work_103, br_eqT rfl, b_Laws_work_106, b_Laws_work_107, b_Laws_work_110, b_Laws_work_111, b_Laws_work_112, zn_sub (by omega), Nat.add_sub_cancel, b_Laws_work_113, b_Laws_work_114, b_Laws_work_117, b_Laws_work_118, b_Laws_work_119, zn_sub (by omega), Nat.add_sub_cancel, b_Laws_work_120, br_oiF (by omega) (by omega), zn_cl (by omega), b_Laws_work_121, b_Laws_work_122, b_Laws_work_123, br_lgeq]
  by_cases e : m.2 45 t = 0
  · rw [if_pos e, if_pos e, b_Laws_work_126, b_Laws_work_127, b_Laws_work_131, br_oiF (by omega) (by omega), zn_cl (by omega), b_Laws_work_132, b_Laws_work_196, b_Laws_work_199, zn_add]
  · rw [if_neg e, if_neg e, b_Laws_work_130, b_Laws_work_131, br_oiF (by omega) (by omega), zn_cl (by omega), b_Laws_work_132, b_Laws_work_196, b_Laws_work_199, zn_add]
theorem wk_bin {d f K t k q : Nat} {x1 : Int32} {x5 : Option Value} {y : Int64} {m : am_M} (ht : t + 1 < 64) (hq : q < 100) (hq1 : q ≠ 17) (hj : am_c d y_Laws_join [.int (zn q), .long (m.2 45 t), .long (m.2 45 (t + 1))] m = some (some (.long y), m)) :
    (bd y → b_Laws_work d f (K + 60) 95 [some (.ref 39), some (.int x1), some (.int (zn (t + 2))), some (.int (zn k)), some (.int (zn q)), x5, none] [] m = r_Laws_work_9 d f x1 (zn (t + 1)) (zn (k + 1)) (some (.int (zn q))) (some (.long y)) (m.1, am_wl m.2 45 t y)) ∧ (¬ bd y → b_Laws_work d f (K + 60) 95 [some (.ref 39), some (.int x1), some (.int (zn (t + 2))), some (.int (zn k)), some (.int (zn q)), x5, none] [] m = some (some (.long lmin), m)) := by
  rw [b_Laws_work_95, b_Laws_work_96, br_leF (by omega) (by omega), b_Laws_work_99, b_Laws_work_101, b_Laws_work_103, br_eqF hq1 (by omega) (by omega), b_Laws_work_135, b_Laws_work_136, b_Laws_work_137, br_leF (by omega) (by omega), b_Laws_work_140, zn_pm (by omega), Nat.add_sub_cancel (n := t + 1) (m := 1), b_Laws_work_143, b_Laws_work_145, b_Laws_work_146, b_Laws_work_149, b_Laws_work_150, b_Laws_work_151, zn_sub (by omega), Nat.add_sub_cancel, b_Laws_work_152, br_oiF (by omega) (by omega), zn_cl (by omega), b_Laws_work_153, b_Laws_work_154, b_Laws_work_157, b_Laws_work_158, br_oiF (by omega) (by omega), zn_cl (by omega), b_Laws_work_159, hj, bL_s, b_Laws_work_162, b_Laws_work_164, b_Laws_work_166, b_Laws_work_169, b_Laws_work_170, br_lglt]
  constructor
  · intro h
    obtain ⟨h1, h2⟩ := (bd_iff y).mp h
    rw [if_neg h1, b_Laws_work_173, b_Laws_work_175, b_Laws_work_178, b_Laws_work_179, br_lgle, if_pos h2, b_Laws_work_186, b_Laws_work_187, b_Laws_work_190, b_Laws_work_191, b_Laws_work_192, zn_sub (by omega), Nat.add_sub_cancel, b_Laws_work_193, b_Laws_work_195, br_oiF (by omega) (by omega), zn_cl (by omega), b_Laws_work_196_60, b_Laws_work_199_61, zn_add]
  · intro h
    by_cases h1 : y < -1000000000000
    · rw [if_pos h1, b_Laws_work_182, b_Laws_work_185]
    · have h2 : ¬ y ≤ 1000000000000 := fun e => h ((bd_iff y).mpr ⟨h1, e⟩)
      rw [if_neg h1, b_Laws_work_173, b_Laws_work_175, b_Laws_work_178, b_Laws_work_179, br_lgle, if_neg h2, b_Laws_work_182, b_Laws_work_185]
def nvl (G : Td) (nm v : Nat → Int64) (j : Nat) : Option Int64 := if G 0 j = 0 then some (zn (G 1 j)).toInt64 else if G 0 j = 1 then some (nm (G 1 j)) else if G 0 j = 2 then some (if v (G 1 j) = 0 then 1 else 0) else jn (G 0 j) (v (G 1 j)) (v (G 2 j))
def evl (G : Td) (nm : Nat → Int64) : Nat → Nat → (Nat → Int64) → Option (Nat → Int64)
  | 0, _, v => some v
  | r + 1, j, v => match nvl G nm v j with
    | none => none
    | some x => evl G nm r (j + 1) (vp_updL v j x)
theorem evl_n {G : Td} {nm v : Nat → Int64} {r j : Nat} (h : nvl G nm v j = none) : evl G nm (r + 1) j v = none := by rw [evl, h]
theorem evl_s {G : Td} {nm v : Nat → Int64} {r j : Nat} {x : Int64} (h : nvl G nm v j = some x) : evl G nm (r + 1) j v = evl G nm r (j + 1) (vp_updL v j x) := by rw [evl, h]
/-- knots in the order in which they are worked out: the stack s of those that wait -/
def wfs (G : Td) : Nat → Nat → List Nat → Prop
  | 0, j, s => s = [j - 1]
  | r + 1, j, s => (G 0 j = 0 ∧ G 1 j < 10000 ∧ wfs G r (j + 1) (j :: s)) ∨ (G 0 j = 1 ∧ G 1 j < 7 ∧ wfs G r (j + 1) (j :: s)) ∨ (G 0 j = 2 ∧ ∃ s', s = G 1 j :: s' ∧ wfs G r (j + 1) (j :: s')) ∨ (3 ≤ G 0 j ∧ G 0 j ≤ 14 ∧ ∃ s', s = G 2 j :: G 1 j :: s' ∧ wfs G r (j + 1) (j :: s'))
theorem kcl_b {q p : Nat} (h3 : 3 ≤ q) (h14 : q ≤ 14) : kcl q p = kcl q 0 ∧ kcl q 0 < 100 ∧ kcl q 0 ≠ 17 ∧ kcl q 0 ≠ 26 ∧ (kcl q 0 < 18 ∨ 24 < kcl q 0) := by
  rcases (by omega : q = 3 ∨ q = 4 ∨ q = 5 ∨ q = 6 ∨ q = 7 ∨ q = 8 ∨ q = 9 ∨ q = 10 ∨ q = 11 ∨ q = 12 ∨ q = 13 ∨ q = 14) with e | e | e | e | e | e | e | e | e | e | e | e <;> subst e <;> exact ⟨rfl, by decide, by decide, by decide, by decide⟩
def svC (s : List Nat) (v : Nat → Int64) (m : am_M) : Prop := ∀ i, i < s.length → m.2 45 (s.length - 1 - i) = v (s.getD i 0)
theorem svC_push {s : List Nat} {v : Nat → Int64} {m : am_M} {j : Nat} {x : Int64} (h : ∀ i, i < s.length → m.2 45 (s.length - 1 - i) = v (s.getD i 0)) (hs : ∀ y, y ∈ s → y < j) : svC (j :: s) (vp_updL v j x) (m.1, am_wl m.2 45 s.length x) := by
  intro i hi
  rw [List.length_cons] at hi ⊢
  cases i with
  | zero =>
    rw [List.getD_cons_zero, upl_at, show s.length + 1 - 1 - 0 = s.length from by omega]
    simp (disch := omega) only [w_ne, w_at, wl_ne, wl_at, wc_ne, wc_at, upd_at, upd_ne, upl_at, upl_ne, cpy_in0, zn_cl, zn_add, zn_mul, zn_sub, zn_pm, br_tt, br_ff, br_ltT, br_ltF, br_leT, br_leF, br_eqT, br_eqF, br_eqs, br_eqm, br_eqm', br_ltm, br_mlt, br_lem, br_mle, br_oiF, br_lgge, br_lgle, br_lggt, br_lglt, br_lgeq, br_zb, br_zb1, bV_s, bI_s, bL_s, zo_n, zo_s]
  | succ i =>
    have hm := hs _ (getD_mem s i 0 (by omega))
    rw [List.getD_cons_succ, upl_ne (by omega), show s.length + 1 - 1 - (i + 1) = s.length - 1 - i from by omega]
    simp (disch := omega) only [w_ne, w_at, wl_ne, wl_at, wc_ne, wc_at, upd_at, upd_ne, upl_at, upl_ne, cpy_in0, zn_cl, zn_add, zn_mul, zn_sub, zn_pm, br_tt, br_ff, br_ltT, br_ltF, br_leT, br_leF, br_eqT, br_eqF, br_eqs, br_eqm, br_eqm', br_ltm, br_mlt, br_lem, br_mle, br_oiF, br_lgge, br_lgle, br_lggt, br_lglt, br_lgeq, br_zb, br_zb1, bV_s, bI_s, bL_s, zo_n, zo_s]
    exact h i (by omega)
theorem lp_work {d l hi : Nat} {G : Td} {nm : Nat → Int64} (hl : l < 3) (h64 : hi ≤ 64) (hnm : nmB nm) (r : Nat) :
    ∀ (j f : Nat) (s : List Nat) (v : Nat → Int64) (x4 x5 : Option Value) (m : am_M), j + r = hi → 3 * r < f → (∀ j, j < hi → m.1 40 j = zn (kcl (G 0 j) (G 1 j)) ∧ (G 0 j = 0 → m.1 41 j = zn (G 1 j))) → m.1 43 l = zn hi → m.2 44 = nm → wfs G r j s → s.length ≤ j → (∀ y, y ∈ s → y < j ∧ bd (v y)) → svC s v m →
    ∃ m', r_Laws_work_9 (d + 1) f (zn l) (zn s.length) (zn j) x4 x5 m = some (some (.long (((evl G nm r j v).map (fun v => v (hi - 1))).getD lmin)), m') ∧ m'.1 = m.1 ∧ ∀ c, c ≠ 45 → m'.2 c = m.2 c := by
  induction r with
  | zero =>
    intro j f s v x4 x5 m h1 h2 hk hto hn hw hsj hs hv
    obtain ⟨f, rfl⟩ : ∃ g, f = g + 1 := ⟨f - 1, by omega⟩
    rw [wfs] at hw
    subst hw
    refine ⟨m, ?_, rfl, fun _ _ => rfl⟩
    have := hv 0 (by simp)
    simp only [List.length_singleton, Nat.sub_self, List.getD_cons_zero] at this
    rw [e_Laws_work_9, List.length_singleton]
    simp (disch := omega) only [w_ne, w_at, wl_ne, wl_at, wc_ne, wc_at, upd_at, upd_ne, upl_at, upl_ne, cpy_in0, zn_cl, zn_add, zn_mul, zn_sub, zn_pm, br_tt, br_ff, br_ltT, br_ltF, br_leT, br_leF, br_eqT, br_eqF, br_eqs, br_eqm, br_eqm', br_ltm, br_mlt, br_lem, br_mle, br_oiF, br_lgge, br_lgle, br_lggt, br_lglt, br_lgeq, br_zb, br_zb1, bV_s, bI_s, bL_s, zo_n, zo_s, hto, this]
    rw [evl, show hi - 1 = j - 1 from by omega]
    rfl
  | succ r ih =>
    intro j f s v x4 x5 m h1 h2 hk hto hn hw hsj hs hv
    obtain ⟨f, rfl⟩ : ∃ g, f = g + 2 := ⟨f - 2, by omega⟩
    obtain ⟨k1, k2⟩ := hk j (by omega)
    have fin : ∀ (x : Int64) (s' : List Nat) (f' : Nat) (y4 y5 : Option Value), nvl G nm v j = some x → bd x → wfs G r (j + 1) (j :: s') → s'.length ≤ j → (∀ y, y ∈ s' → y < j ∧ bd (v y)) → (∀ i, i < s'.length → m.2 45 (s'.length - 1 - i) = v (s'.getD i 0)) → 3 * r < f' → r_Laws_work_9 (d + 1) (f + 2) (zn l) (zn s.length) (zn j) x4 x5 m = r_Laws_work_9 (d + 1) f' (zn l) (zn (s'.length + 1)) (zn (j + 1)) y4 y5 (m.1, am_wl m.2 45 s'.length x) →
        ∃ m', r_Laws_work_9 (d + 1) (f + 2) (zn l) (zn s.length) (zn j) x4 x5 m = some (some (.long (((evl G nm (r + 1) j v).map (fun v => v (hi - 1))).getD lmin)), m') ∧ m'.1 = m.1 ∧ ∀ c, c ≠ 45 → m'.2 c = m.2 c := by
      intro x s' f' y4 y5 q1 q2 q3 q4 q5 q6 q7 q8
      obtain ⟨m', b1, b2, b3⟩ := ih (j + 1) f' (j :: s') (vp_updL v j x) y4 y5 (m.1, am_wl m.2 45 s'.length x) (by omega) q7 hk hto (by simp (disch := omega) only [w_ne, w_at, wl_ne, wl_at, wc_ne, wc_at, upd_at, upd_ne, upl_at, upl_ne, cpy_in0, zn_cl, zn_add, zn_mul, zn_sub, zn_pm, br_tt, br_ff, br_ltT, br_ltF, br_leT, br_leF, br_eqT, br_eqF, br_eqs, br_eqm, br_eqm', br_ltm, br_mlt, br_lem, br_mle, br_oiF, br_lgge, br_lgle, br_lggt, br_lglt, br_lgeq, br_zb, br_zb1, bV_s, bI_s, bL_s, zo_n, zo_s]; exact hn) q3 (by rw [List.length_cons]; omega) (by
        intro y hy
        rcases List.mem_cons.mp hy with e | e
        · subst e; rw [upl_at]; exact ⟨by omega, q2⟩
        · obtain ⟨e1, e2⟩ := q5 y e
          rw [upl_ne (by omega)]; exact ⟨by omega, e2⟩) (svC_push q6 (fun y hy => (q5 y hy).1))
      rw [List.length_cons] at b1
      refine ⟨m', ?_, b2, ?_⟩
      · rw [q8, b1, evl_s q1]
      · intro c hc; rw [b3 c hc]; simp (disch := omega) only [w_ne, w_at, wl_ne, wl_at, wc_ne, wc_at, upd_at, upd_ne, upl_at, upl_ne, cpy_in0, zn_cl, zn_add, zn_mul, zn_sub, zn_pm, br_tt, br_ff, br_ltT, br_ltF, br_leT, br_leF, br_eqT, br_eqF, br_eqs, br_eqm, br_eqm', br_ltm, br_mlt, br_lem, br_mle, br_oiF, br_lgge, br_lgle, br_lggt, br_lglt, br_lgeq, br_zb, br_zb1, bV_s, bI_s, bL_s, zo_n, zo_s]
    rw [wfs] at hw
    rcases hw with ⟨g1, g2, g3⟩ | ⟨g1, g2, g3⟩ | ⟨g1, s', g2, g3⟩ | ⟨g1, g2, s', g3, g4⟩
    · have e1 : kcl (G 0 j) (G 1 j) = 26 := by unfold kcl; rw [if_pos g1]
      refine fin (zn (G 1 j)).toInt64 s (f + 1) (some (.int (zn 26))) x5 (by unfold nvl; rw [if_pos g1]) (bd32 _) g3 hsj hs hv (by omega) ?_
      rw [e_Laws_work_9]
      simp (disch := omega) only [w_ne, w_at, wl_ne, wl_at, wc_ne, wc_at, upd_at, upd_ne, upl_at, upl_ne, cpy_in0, zn_cl, zn_add, zn_mul, zn_sub, zn_pm, br_tt, br_ff, br_ltT, br_ltF, br_leT, br_leF, br_eqT, br_eqF, br_eqs, br_eqm, br_eqm', br_ltm, br_mlt, br_lem, br_mle, br_oiF, br_lgge, br_lgle, br_lggt, br_lglt, br_lgeq, br_zb, br_zb1, bV_s, bI_s, bL_s, zo_n, zo_s, hto, k1, e1, k2 g1]
    · have e1 : kcl (G 0 j) (G 1 j) = 18 + G 1 j := by unfold kcl; rw [if_neg (by omega), if_pos g1]
      refine fin (nm (G 1 j)) s (f + 1) (some (.int (zn (18 + G 1 j)))) x5 (by unfold nvl; rw [if_neg (by omega), if_pos g1]) (hnm _ g2) g3 hsj hs hv (by omega) ?_
      rw [e_Laws_work_9]
      simp (disch := omega) only [w_ne, w_at, wl_ne, wl_at, wc_ne, wc_at, upd_at, upd_ne, upl_at, upl_ne, cpy_in0, zn_cl, zn_add, zn_mul, zn_sub, zn_pm, br_tt, br_ff, br_ltT, br_ltF, br_leT, br_leF, br_eqT, br_eqF, br_eqs, br_eqm, br_eqm', br_ltm, br_mlt, br_lem, br_mle, br_oiF, br_lgge, br_lgle, br_lggt, br_lglt, br_lgeq, br_zb, br_zb1, bV_s, bI_s, bL_s, zo_n, zo_s, hto, k1, e1, hn, Nat.add_sub_cancel_left]
    · have e1 : kcl (G 0 j) (G 1 j) = 17 := by unfold kcl; rw [if_neg (by omega), if_neg (by omega), if_pos g1]
      subst g2
      rw [List.length_cons] at hsj
      have hv0 := hv 0 (by simp)
      simp only [List.length_cons, Nat.add_sub_cancel, Nat.sub_zero, List.getD_cons_zero] at hv0
      refine fin (if v (G 1 j) = 0 then 1 else 0) s' f (some (.int (zn 17))) x5 (by unfold nvl; rw [if_neg (by omega), if_neg (by omega), if_pos g1]) (bd01 (by split <;> simp)) g3 (by omega) (fun y hy => hs y (List.mem_cons_of_mem _ hy)) (fun i hi => by
        have := hv (i + 1) (by rw [List.length_cons]; omega)
        rw [List.length_cons, List.getD_cons_succ, show s'.length + 1 - 1 - (i + 1) = s'.length - 1 - i from by omega] at this
        exact this) (by omega) ?_
      rw [e_Laws_work_9, List.length_cons]
      simp (disch := omega) only [w_ne, w_at, wl_ne, wl_at, wc_ne, wc_at, upd_at, upd_ne, upl_at, upl_ne, cpy_in0, zn_cl, zn_add, zn_mul, zn_sub, zn_pm, br_tt, br_ff, br_ltT, br_ltF, br_leT, br_leF, br_eqT, br_eqF, br_eqs, br_eqm, br_eqm', br_ltm, br_mlt, br_lem, br_mle, br_oiF, br_lgge, br_lgle, br_lggt, br_lglt, br_lgeq, br_zb, br_zb1, bV_s, bI_s, bL_s, zo_n, zo_s, hto, k1, e1]
      rw [e_Laws_work_95, show (999 + 1 : Nat) = 960 + 40 from rfl, wk_not (by omega), hv0]
    · obtain ⟨e1, e2⟩ := kcl_b (p := G 1 j) g1 g2
      subst g3
      rw [List.length_cons, List.length_cons] at hsj
      have hv0 := hv 0 (by simp)
      have hv1 := hv 1 (by simp)
      simp only [List.length_cons, Nat.add_sub_cancel, Nat.sub_zero, List.getD_cons_zero, List.getD_cons_succ] at hv0 hv1
      have hb1 := (hs (G 1 j) (by simp)).2
      have hb2 := (hs (G 2 j) (by simp)).2
      obtain ⟨y, j1, j2⟩ := s_join (d := d) (m := m) g1 g2 hb1 hb2
      rw [← hv0, ← hv1] at j1
      have wk := wk_bin (d := d + 1) (f := f) (K := 940) (k := j) (x1 := zn l) (x5 := x5) (t := s'.length) (by omega) e2.1 e2.2.1 j1
      have e9 : r_Laws_work_9 (d + 1) (f + 2) (zn l) (zn (s'.length + 1 + 1)) (zn j) x4 x5 m = r_Laws_work_95 (d + 1) (f + 1) (zn l) (zn (s'.length + 2)) (zn j) (zn (kcl (G 0 j) 0)) x5 m := by
        rw [e_Laws_work_9]
        rcases e2.2.2.2 with q | q
        · simp (disch := omega) only [w_ne, w_at, wl_ne, wl_at, wc_ne, wc_at, upd_at, upd_ne, upl_at, upl_ne, cpy_in0, zn_cl, zn_add, zn_mul, zn_sub, zn_pm, br_tt, br_ff, br_ltT, br_ltF, br_leT, br_leF, br_eqT, br_eqF, br_eqs, br_eqm, br_eqm', br_ltm, br_mlt, br_lem, br_mle, br_oiF, br_lgge, br_lgle, br_lggt, br_lglt, br_lgeq, br_zb, br_zb1, bV_s, bI_s, bL_s, zo_n, zo_s, hto, k1, e1]
        · simp (disch := omega) only [w_ne, w_at, wl_ne, wl_at, wc_ne, wc_at, upd_at, upd_ne, upl_at, upl_ne, cpy_in0, zn_cl, zn_add, zn_mul, zn_sub, zn_pm, br_tt, br_ff, br_ltT, br_ltF, br_leT, br_leF, br_eqT, br_eqF, br_eqs, br_eqm, br_eqm', br_ltm, br_mlt, br_lem, br_mle, br_oiF, br_lgge, br_lgle, br_lggt, br_lglt, br_lgeq, br_zb, br_zb1, bV_s, bI_s, bL_s, zo_n, zo_s, hto, k1, e1]
      have nv : nvl G nm v j = jn (G 0 j) (v (G 1 j)) (v (G 2 j)) := by unfold nvl; rw [if_neg (by omega), if_neg (by omega), if_neg (by omega)]
      rcases j2 with ⟨j3, j4⟩ | ⟨j3, j4⟩
      · refine fin y s' f (some (.int (zn (kcl (G 0 j) 0)))) (some (.long y)) (by rw [nv]; exact j3) j4 g4 (by omega) (fun y hy => hs y (List.mem_cons_of_mem _ (List.mem_cons_of_mem _ hy))) (fun i hi => by
          have := hv (i + 2) (by rw [List.length_cons, List.length_cons]; omega)
          rw [List.length_cons, List.length_cons, List.getD_cons_succ, List.getD_cons_succ, show s'.length + 1 + 1 - 1 - (i + 2) = s'.length - 1 - i from by omega] at this
          exact this) (by omega) ?_
        rw [List.length_cons, List.length_cons, e9, e_Laws_work_95, show (999 + 1 : Nat) = 940 + 60 from rfl, wk.1 j4]
      · refine ⟨m, ?_, rfl, fun _ _ => rfl⟩
        rw [List.length_cons, List.length_cons, e9, e_Laws_work_95, show (999 + 1 : Nat) = 940 + 60 from rfl, wk.2 j4, evl_n (by rw [nv]; exact j3)]
        rfl
