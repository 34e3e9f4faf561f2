/-! tried: the answers -/
theorem lp_down {k : Nat} (hk : sc_k k) {d : Nat} {x1 x2 : Int32} (r : Nat) : ∀ (i f : Nat) (m : am_M), m.1 k 6 = zn (i + r) → i + r < 5 → r < f →
    ∃ m', r_Scene_takeDown_24 k d f x1 x2 (zn i) m = some (none, m') ∧ m'.2 = m.2 ∧ (∀ c, c ≠ k + 4 → m'.1 c = m.1 c) ∧ (∀ q, q < i → m'.1 (k + 4) q = m.1 (k + 4) q) ∧ ∀ q, i ≤ q → q < i + r → m'.1 (k + 4) q = m.1 (k + 4) (q + 1) := by
  induction r with
  | zero =>
    intro i f m h1 h2 h3
    obtain ⟨f, rfl⟩ : ∃ g, f = g + 1 := ⟨f - 1, by omega⟩
    refine ⟨m, ?_, rfl, fun _ _ => rfl, fun _ _ => rfl, fun q _ _ => by omega⟩
    rw [e_Scene_takeDown_24 hk]
    simp (disch := omega) only [w_ne, w_at, wl_ne, wl_at, wc_ne, wc_at, upd_at, upd_ne, upl_at, upl_ne, cpy_in0, zn_cl, zn_add, zn_mul, zn_sub, zn_pm, br_tt, br_ff, br_ltT, br_ltF, br_leT, br_leF, br_eqT, br_eqF, br_eqs, br_eqm, br_eqm', br_ltm, br_mlt, br_lem, br_mle, br_oiF, br_lgge, br_lgle, br_lggt, br_lglt, br_lgeq, br_zb, br_zb1, bV_s, bI_s, bL_s, zo_n, zo_s, h1]
  | succ r ih =>
    intro i f m h1 h2 h3
    obtain ⟨f, rfl⟩ : ∃ g, f = g + 1 := ⟨f - 1, by omega⟩
    obtain ⟨m', e1, e2, e3, e4, e5⟩ := ih (i + 1) f (am_w m.1 (k + 4) i (m.1 (k + 4) (i + 1)), m.2) (by simp (disch := omega) only [w_ne, w_at, wl_ne, wl_at, wc_ne, wc_at, upd_at, upd_ne, upl_at, upl_ne, cpy_in0, zn_cl, zn_add, zn_mul, zn_sub, zn_pm, br_tt, br_ff, br_ltT, br_ltF, br_leT, br_leF, br_eqT, br_eqF, br_eqs, br_eqm, br_eqm', br_ltm, br_mlt, br_lem, br_mle, br_oiF, br_lgge, br_lgle, br_lggt, br_lglt, br_lgeq, br_zb, br_zb1, bV_s, bI_s, bL_s, zo_n, zo_s, h1]; congr 1; omega) (by omega) (by omega)
    refine ⟨m', ?_, e2, ?_, ?_, ?_⟩
    · rw [e_Scene_takeDown_24 hk]
      simp (disch := omega) only [w_ne, w_at, wl_ne, wl_at, wc_ne, wc_at, upd_at, upd_ne, upl_at, upl_ne, cpy_in0, zn_cl, zn_add, zn_mul, zn_sub, zn_pm, br_tt, br_ff, br_ltT, br_ltF, br_leT, br_leF, br_eqT, br_eqF, br_eqs, br_eqm, br_eqm', br_ltm, br_mlt, br_lem, br_mle, br_oiF, br_lgge, br_lgle, br_lggt, br_lglt, br_lgeq, br_zb, br_zb1, bV_s, bI_s, bL_s, zo_n, zo_s, h1, e1]
    · intro c hc; rw [e3 c hc]; simp (disch := omega) only [w_ne, w_at, wl_ne, wl_at, wc_ne, wc_at, upd_at, upd_ne, upl_at, upl_ne, cpy_in0, zn_cl, zn_add, zn_mul, zn_sub, zn_pm, br_tt, br_ff, br_ltT, br_ltF, br_leT, br_leF, br_eqT, br_eqF, br_eqs, br_eqm, br_eqm', br_ltm, br_mlt, br_lem, br_mle, br_oiF, br_lgge, br_lgle, br_lggt, br_lglt, br_lgeq, br_zb, br_zb1, bV_s, bI_s, bL_s, zo_n, zo_s]
    · intro q hq; rw [e4 q (by omega)]; simp (disch := omega) only [w_ne, w_at, wl_ne, wl_at, wc_ne, wc_at, upd_at, upd_ne, upl_at, upl_ne, cpy_in0, zn_cl, zn_add, zn_mul, zn_sub, zn_pm, br_tt, br_ff, br_ltT, br_ltF, br_leT, br_leF, br_eqT, br_eqF, br_eqs, br_eqm, br_eqm', br_ltm, br_mlt, br_lem, br_mle, br_oiF, br_lgge, br_lgle, br_lggt, br_lglt, br_lgeq, br_zb, br_zb1, bV_s, bI_s, bL_s, zo_n, zo_s]
    · intro q hq1 hq2
      rcases Nat.eq_or_lt_of_le hq1 with e | e
      · subst e; rw [e4 i (by omega)]; simp (disch := omega) only [w_ne, w_at, wl_ne, wl_at, wc_ne, wc_at, upd_at, upd_ne, upl_at, upl_ne, cpy_in0, zn_cl, zn_add, zn_mul, zn_sub, zn_pm, br_tt, br_ff, br_ltT, br_ltF, br_leT, br_leF, br_eqT, br_eqF, br_eqs, br_eqm, br_eqm', br_ltm, br_mlt, br_lem, br_mle, br_oiF, br_lgge, br_lgle, br_lggt, br_lglt, br_lgeq, br_zb, br_zb1, bV_s, bI_s, bL_s, zo_n, zo_s]
      · rw [e5 q (by omega) (by omega)]; simp (disch := omega) only [w_ne, w_at, wl_ne, wl_at, wc_ne, wc_at, upd_at, upd_ne, upl_at, upl_ne, cpy_in0, zn_cl, zn_add, zn_mul, zn_sub, zn_pm, br_tt, br_ff, br_ltT, br_ltF, br_leT, br_leF, br_eqT, br_eqF, br_eqs, br_eqm, br_eqm', br_ltm, br_mlt, br_lem, br_mle, br_oiF, br_lgge, br_lgle, br_lggt, br_lglt, br_lgeq, br_zb, br_zb1, bV_s, bI_s, bL_s, zo_n, zo_s]
theorem s_down {k : Nat} (hk : sc_k k) {T : Td} {ord : List Nat} {U : Nat → Nat} {mt : List (Nat × Nat)} {h : Hs} {w : List Nat} {day d a : Nat} {m : am_M} (s : sn k T ord U mt h w day m) (hn : ord.Nodup) (ho : ord.length ≤ 5) (hm : ∀ x, x ∈ ord → x < 1000) (ha : a ∈ ord) :
    ∃ m', am_c (d + 2) y_Scene_takeDown [.ref k, .int (zn a)] m = some (none, m') ∧ sn k T (ord.filter (fun x => decide (some x ≠ some a))) U mt h w day m' ∧ m'.2 = m.2 ∧ ∀ c, c ≠ k → c ≠ k + 4 → m'.1 c = m.1 c := by
  obtain ⟨j, j1, _, j3, j4⟩ := fd_mem hm (hm a ha) ord.length 0 (by omega) (by rw [List.drop_zero]; exact ha)
  have f1 : am_c (d + 1) y_Scene_turnOf [.ref k, .int (zn a)] m = _ := (n_Scene_turnOf hk d (zn a) m).trans (lp_turnOf (f := fun i => ord.getD i 0) hk ho s.ol s.os ord.length 0 29999 (by omega) (by omega))
  rw [j1] at f1
  obtain ⟨r, hr⟩ : ∃ r, ord.length = j + r + 1 := ⟨ord.length - j - 1, by omega⟩
  obtain ⟨m', e1, e2, e3, e4, e5⟩ := lp_down hk (d := d + 1) (x1 := zn a) (x2 := zn j) r j 29999 (am_w m.1 k 6 (zn (j + r)), m.2) (by simp (disch := omega) only [w_ne, w_at, wl_ne, wl_at, wc_ne, wc_at, upd_at, upd_ne, upl_at, upl_ne, cpy_in0, zn_cl, zn_add, zn_mul, zn_sub, zn_pm, br_tt, br_ff, br_ltT, br_ltF, br_leT, br_leF, br_eqT, br_eqF, br_eqs, br_eqm, br_eqm', br_ltm, br_mlt, br_lem, br_mle, br_oiF, br_lgge, br_lgle, br_lggt, br_lglt, br_lgeq, br_zb, br_zb1, bV_s, bI_s, bL_s, zo_n, zo_s]) (by omega) (by omega)
  rw [← erase_filter ord j hn j3 j4]
  have hl : (ord.eraseIdx j).length = j + r := by rw [List.length_eraseIdx_of_lt j3]; omega
  refine ⟨m', ?_, ⟨?_, ?_, ?_, ?_, ?_, ?_, ?_, ?_, ?_, ?_⟩, e2, ?_⟩
  · rw [n_Scene_takeDown hk, f1, bI_s, br_eqm (by omega), s.ol, zn_sub (by omega), hr, Nat.add_sub_cancel, e1]
  · rw [e3 _ (by omega)]; simp (disch := omega) only [w_ne, w_at, wl_ne, wl_at, wc_ne, wc_at, upd_at, upd_ne, upl_at, upl_ne, cpy_in0, zn_cl, zn_add, zn_mul, zn_sub, zn_pm, br_tt, br_ff, br_ltT, br_ltF, br_leT, br_leF, br_eqT, br_eqF, br_eqs, br_eqm, br_eqm', br_ltm, br_mlt, br_lem, br_mle, br_oiF, br_lgge, br_lgle, br_lggt, br_lglt, br_lgeq, br_zb, br_zb1, bV_s, bI_s, bL_s, zo_n, zo_s, s.n]
  · intro i hi; rw [e3 _ (by omega)]; simp (disch := omega) only [w_ne, w_at, wl_ne, wl_at, wc_ne, wc_at, upd_at, upd_ne, upl_at, upl_ne, cpy_in0, zn_cl, zn_add, zn_mul, zn_sub, zn_pm, br_tt, br_ff, br_ltT, br_ltF, br_leT, br_leF, br_eqT, br_eqF, br_eqs, br_eqm, br_eqm', br_ltm, br_mlt, br_lem, br_mle, br_oiF, br_lgge, br_lgle, br_lggt, br_lglt, br_lgeq, br_zb, br_zb1, bV_s, bI_s, bL_s, zo_n, zo_s, s.hs]
  · rw [e3 _ (by omega)]; simp (disch := omega) only [w_ne, w_at, wl_ne, wl_at, wc_ne, wc_at, upd_at, upd_ne, upl_at, upl_ne, cpy_in0, zn_cl, zn_add, zn_mul, zn_sub, zn_pm, br_tt, br_ff, br_ltT, br_ltF, br_leT, br_leF, br_eqT, br_eqF, br_eqs, br_eqm, br_eqm', br_ltm, br_mlt, br_lem, br_mle, br_oiF, br_lgge, br_lgle, br_lggt, br_lglt, br_lgeq, br_zb, br_zb1, bV_s, bI_s, bL_s, zo_n, zo_s, s.wl]
  · intro i hi; rw [e3 _ (by omega)]; simp (disch := omega) only [w_ne, w_at, wl_ne, wl_at, wc_ne, wc_at, upd_at, upd_ne, upl_at, upl_ne, cpy_in0, zn_cl, zn_add, zn_mul, zn_sub, zn_pm, br_tt, br_ff, br_ltT, br_ltF, br_leT, br_leF, br_eqT, br_eqF, br_eqs, br_eqm, br_eqm', br_ltm, br_mlt, br_lem, br_mle, br_oiF, br_lgge, br_lgle, br_lggt, br_lglt, br_lgeq, br_zb, br_zb1, bV_s, bI_s, bL_s, zo_n, zo_s, s.ws]
  · rw [e3 _ (by omega)]; simp (disch := omega) only [w_ne, w_at, wl_ne, wl_at, wc_ne, wc_at, upd_at, upd_ne, upl_at, upl_ne, cpy_in0, zn_cl, zn_add, zn_mul, zn_sub, zn_pm, br_tt, br_ff, br_ltT, br_ltF, br_leT, br_leF, br_eqT, br_eqF, br_eqs, br_eqm, br_eqm', br_ltm, br_mlt, br_lem, br_mle, br_oiF, br_lgge, br_lgle, br_lggt, br_lglt, br_lgeq, br_zb, br_zb1, bV_s, bI_s, bL_s, zo_n, zo_s, s.dy]
  · rw [e3 _ (by omega), hl]; simp (disch := omega) only [w_ne, w_at, wl_ne, wl_at, wc_ne, wc_at, upd_at, upd_ne, upl_at, upl_ne, cpy_in0, zn_cl, zn_add, zn_mul, zn_sub, zn_pm, br_tt, br_ff, br_ltT, br_ltF, br_leT, br_leF, br_eqT, br_eqF, br_eqs, br_eqm, br_eqm', br_ltm, br_mlt, br_lem, br_mle, br_oiF, br_lgge, br_lgle, br_lggt, br_lglt, br_lgeq, br_zb, br_zb1, bV_s, bI_s, bL_s, zo_n, zo_s]
  · intro i hi
    rw [hl] at hi
    rw [getD_erase]
    by_cases e : i < j
    · rw [e4 i e, if_pos e]; simp (disch := omega) only [w_ne, w_at, wl_ne, wl_at, wc_ne, wc_at, upd_at, upd_ne, upl_at, upl_ne, cpy_in0, zn_cl, zn_add, zn_mul, zn_sub, zn_pm, br_tt, br_ff, br_ltT, br_ltF, br_leT, br_leF, br_eqT, br_eqF, br_eqs, br_eqm, br_eqm', br_ltm, br_mlt, br_lem, br_mle, br_oiF, br_lgge, br_lgle, br_lggt, br_lglt, br_lgeq, br_zb, br_zb1, bV_s, bI_s, bL_s, zo_n, zo_s, s.os]
    · rw [e5 i (by omega) (by omega), if_neg e]; simp (disch := omega) only [w_ne, w_at, wl_ne, wl_at, wc_ne, wc_at, upd_at, upd_ne, upl_at, upl_ne, cpy_in0, zn_cl, zn_add, zn_mul, zn_sub, zn_pm, br_tt, br_ff, br_ltT, br_ltF, br_leT, br_leF, br_eqT, br_eqF, br_eqs, br_eqm, br_eqm', br_ltm, br_mlt, br_lem, br_mle, br_oiF, br_lgge, br_lgle, br_lggt, br_lglt, br_lgeq, br_zb, br_zb1, bV_s, bI_s, bL_s, zo_n, zo_s, s.os]
  · intro i hi; rw [e3 _ (by omega)]; simp (disch := omega) only [w_ne, w_at, wl_ne, wl_at, wc_ne, wc_at, upd_at, upd_ne, upl_at, upl_ne, cpy_in0, zn_cl, zn_add, zn_mul, zn_sub, zn_pm, br_tt, br_ff, br_ltT, br_ltF, br_leT, br_leF, br_eqT, br_eqF, br_eqs, br_eqm, br_eqm', br_ltm, br_mlt, br_lem, br_mle, br_oiF, br_lgge, br_lgle, br_lggt, br_lglt, br_lgeq, br_zb, br_zb1, bV_s, bI_s, bL_s, zo_n, zo_s, s.hu]
  · rw [e3 _ (by omega)]; simp (disch := omega) only [w_ne, w_at, wl_ne, wl_at, wc_ne, wc_at, upd_at, upd_ne, upl_at, upl_ne, cpy_in0, zn_cl, zn_add, zn_mul, zn_sub, zn_pm, br_tt, br_ff, br_ltT, br_ltF, br_leT, br_leF, br_eqT, br_eqF, br_eqs, br_eqm, br_eqm', br_ltm, br_mlt, br_lem, br_mle, br_oiF, br_lgge, br_lgle, br_lggt, br_lglt, br_lgeq, br_zb, br_zb1, bV_s, bI_s, bL_s, zo_n, zo_s, s.ml]
  · intro i hi; rw [e3 _ (by omega), e3 _ (by omega)]; simp (disch := omega) only [w_ne, w_at, wl_ne, wl_at, wc_ne, wc_at, upd_at, upd_ne, upl_at, upl_ne, cpy_in0, zn_cl, zn_add, zn_mul, zn_sub, zn_pm, br_tt, br_ff, br_ltT, br_ltF, br_leT, br_leF, br_eqT, br_eqF, br_eqs, br_eqm, br_eqm', br_ltm, br_mlt, br_lem, br_mle, br_oiF, br_lgge, br_lgle, br_lggt, br_lglt, br_lgeq, br_zb, br_zb1, bV_s, bI_s, bL_s, zo_n, zo_s]; exact s.ms i hi
  · intro c c1 c2; rw [e3 c c2]; simp (disch := omega) only [w_ne, w_at, wl_ne, wl_at, wc_ne, wc_at, upd_at, upd_ne, upl_at, upl_ne, cpy_in0, zn_cl, zn_add, zn_mul, zn_sub, zn_pm, br_tt, br_ff, br_ltT, br_ltF, br_leT, br_leF, br_eqT, br_eqF, br_eqs, br_eqm, br_eqm', br_ltm, br_mlt, br_lem, br_mle, br_oiF, br_lgge, br_lgle, br_lggt, br_lglt, br_lgeq, br_zb, br_zb1, bV_s, bI_s, bL_s, zo_n, zo_s]
theorem tr_c {T G F : Td} {q : Sq} {w : List Nat} {day num n : Nat} {x1 x2 : Int32} {m m2 : am_M} (c : Core T G F q w day num m) {V : Td} {ord : List Nat} {mt : List (Nat × Nat)} (hn : n ≤ 20) (W : tw T V) (S : sw T ord q.2.1 mt (day + n)) (cx2 : cx T V (gE G F) m2) (s2 : sn 85 T ord q.2.1 mt q.2.2.2 w day m2) (e0 : ∀ c, c ≤ 24 ∨ 27 ≤ c ∧ c ≤ 45 ∨ 71 ≤ c ∧ c ≤ 84 ∨ 97 ≤ c ∧ c ≤ 100 ∨ 102 ≤ c → m2.1 c = m.1 c) (eL : ∀ c, 107 ≤ c → m2.2 c = m.2 c) (e2 : ∀ i, 5 ≤ i → m2.1 47 i = m.1 47 i ∧ m2.1 48 i = m.1 48 i ∧ m2.1 49 i = m.1 49 i) (e3 : ∀ i, i ≠ 3 → m2.1 46 i = m.1 46 i) :
    ∃ m', r_C_tried_119 7 29999 x1 x2 (zn n) (zn 0) m2 = some (some (.int (zn (sp_own (T 0 0) (sp_pn T V (gE G F) q.2.1 ord mt n day q.2.2.2 w).1))), m') ∧ fqC m m' := by
  have hE := gE_evW c.gw c.gf
  have hk : sc_k 85 := Or.inr (Or.inr (Or.inr (Or.inr rfl)))
  obtain ⟨f', m3, a1, a0, a2, a3⟩ := lp_tr W hE (d := 2) (x1 := x1) (x2 := x2) hn n 0 29999 day q.2.2.2 w m2 (by omega) (by omega) S cx2 s2 c.qw.hw
  have I' := pn_hw (T := T) (V := V) (E := gE G F) (U := q.2.1) (ord := ord) S.ms n day q.2.2.2 w c.qw.hw
  have e46 : ∀ p, 27 ≤ p → p ≤ 49 → m3.1 p = m2.1 p := fun p _ _ => a3.2.1 p (by omega) (by omega) (by omega)
  obtain ⟨m4, b1, b2, b3, b4⟩ := s_follow (d := 6) c.tc (m3 := m3) (fun p p1 p2 => by rw [e46 p p1 (by omega), e0 p (by omega)]) (fun i hi => by rw [e46 47 (by omega) (by omega), e46 48 (by omega) (by omega), e46 49 (by omega) (by omega)]; exact e2 i hi) (fun i hi => by rw [e46 46 (by omega) (by omega)]; exact e3 i hi)
  have s4 := a2.mono (m' := m4) (fun p _ _ => b3 p (by omega))
  refine ⟨m4, ?_, ?_, ?_⟩
  · rw [a1, e_C_tried_119, br_leT (by omega) (by omega), b1, bV_s, s_countOwn hk W.n s4.n s4.dd I', bI_s]
  · intro p hp
    by_cases q : 46 ≤ p ∧ p ≤ 49
    · exact b4 p q.1 q.2
    · rw [b3 p (by omega), a3.2.1 p (by omega) (by omega) (by omega), e0 p (by omega)]
  · intro p hp; rw [b2, a3.1 p (by omega) (by omega) (by omega) (by omega), eL p hp]
def V1 (T : Td) : Td := fun r i => if r = 2 then 29 else V0 T r i
def V2 (T : Td) : Td := fun r i => if r = 1 then (if T 4 i = 2 then 0 else T 4 i) else V0 T r i
def V3 (T : Td) (t : Nat) : Td := fun r i => if r = 1 then (if i = t then 1 else T 4 i) else V0 T r i
theorem tw1 {T : Td} (W : tW T) : tw T (V1 T) := ⟨W.n, W.L, W.pl, W.sz, W.fg, W.rl, W.cm, W.hw, fun l hl => by show 29 < 30; omega⟩
theorem tw2 {T : Td} (W : tW T) : tw T (V2 T) := ⟨W.n, W.L, W.pl, W.sz, W.fg, W.rl, W.cm, fun i hi => by show (if T 4 i = 2 then 0 else T 4 i) < 3; have := W.hw i hi; split <;> omega, W.rc⟩
theorem tw3 {T : Td} {t : Nat} (W : tW T) : tw T (V3 T t) := ⟨W.n, W.L, W.pl, W.sz, W.fg, W.rl, W.cm, fun i hi => by show (if i = t then 1 else T 4 i) < 3; have := W.hw i hi; split <;> omega, W.rc⟩
/-- flags set -/
def mem5 (m : am_M) (a b c d e : Int32) : am_M := (am_w (am_w (am_w (am_w (am_w m.1 107 60 a) 107 61 b) 107 62 c) 107 63 d) 107 64 e, m.2)
theorem m5_c {m : am_M} {a b c d e : Int32} {p : Nat} (h : p ≠ 107) : (mem5 m a b c d e).1 p = m.1 p := by unfold mem5; simp (disch := omega) only [w_ne, w_at, wl_ne, wl_at, wc_ne, wc_at, upd_at, upd_ne, upl_at, upl_ne, cpy_in0, zn_cl, zn_add, zn_mul, zn_sub, zn_pm, br_tt, br_ff, br_ltT, br_ltF, br_leT, br_leF, br_eqT, br_eqF, br_eqs, br_eqm, br_eqm', br_ltm, br_mlt, br_lem, br_mle, br_oiF, br_lgge, br_lgle, br_lggt, br_lglt, br_lgeq, br_zb, br_zb1, bV_s, bI_s, bL_s, zo_n, zo_s]
theorem m5_i {m : am_M} {a b c d e : Int32} {i : Nat} (h : i < 60 ∨ 64 < i) : (mem5 m a b c d e).1 107 i = m.1 107 i := by unfold mem5; rcases h with h | h <;> simp (disch := omega) only [w_ne, w_at, wl_ne, wl_at, wc_ne, wc_at, upd_at, upd_ne, upl_at, upl_ne, cpy_in0, zn_cl, zn_add, zn_mul, zn_sub, zn_pm, br_tt, br_ff, br_ltT, br_ltF, br_leT, br_leF, br_eqT, br_eqF, br_eqs, br_eqm, br_eqm', br_ltm, br_mlt, br_lem, br_mle, br_oiF, br_lgge, br_lgle, br_lggt, br_lglt, br_lgeq, br_zb, br_zb1, bV_s, bI_s, bL_s, zo_n, zo_s]
theorem m5_60 {m : am_M} {a b c d e : Int32} : (mem5 m a b c d e).1 107 60 = a := by unfold mem5; simp (disch := omega) only [w_ne, w_at, wl_ne, wl_at, wc_ne, wc_at, upd_at, upd_ne, upl_at, upl_ne, cpy_in0, zn_cl, zn_add, zn_mul, zn_sub, zn_pm, br_tt, br_ff, br_ltT, br_ltF, br_leT, br_leF, br_eqT, br_eqF, br_eqs, br_eqm, br_eqm', br_ltm, br_mlt, br_lem, br_mle, br_oiF, br_lgge, br_lgle, br_lggt, br_lglt, br_lgeq, br_zb, br_zb1, bV_s, bI_s, bL_s, zo_n, zo_s]
theorem m5_61 {m : am_M} {a b c d e : Int32} : (mem5 m a b c d e).1 107 61 = b := by unfold mem5; simp (disch := omega) only [w_ne, w_at, wl_ne, wl_at, wc_ne, wc_at, upd_at, upd_ne, upl_at, upl_ne, cpy_in0, zn_cl, zn_add, zn_mul, zn_sub, zn_pm, br_tt, br_ff, br_ltT, br_ltF, br_leT, br_leF, br_eqT, br_eqF, br_eqs, br_eqm, br_eqm', br_ltm, br_mlt, br_lem, br_mle, br_oiF, br_lgge, br_lgle, br_lggt, br_lglt, br_lgeq, br_zb, br_zb1, bV_s, bI_s, bL_s, zo_n, zo_s]
theorem m5_62 {m : am_M} {a b c d e : Int32} : (mem5 m a b c d e).1 107 62 = c := by unfold mem5; simp (disch := omega) only [w_ne, w_at, wl_ne, wl_at, wc_ne, wc_at, upd_at, upd_ne, upl_at, upl_ne, cpy_in0, zn_cl, zn_add, zn_mul, zn_sub, zn_pm, br_tt, br_ff, br_ltT, br_ltF, br_leT, br_leF, br_eqT, br_eqF, br_eqs, br_eqm, br_eqm', br_ltm, br_mlt, br_lem, br_mle, br_oiF, br_lgge, br_lgle, br_lggt, br_lglt, br_lgeq, br_zb, br_zb1, bV_s, bI_s, bL_s, zo_n, zo_s]
theorem m5_63 {m : am_M} {a b c d e : Int32} : (mem5 m a b c d e).1 107 63 = d := by unfold mem5; simp (disch := omega) only [w_ne, w_at, wl_ne, wl_at, wc_ne, wc_at, upd_at, upd_ne, upl_at, upl_ne, cpy_in0, zn_cl, zn_add, zn_mul, zn_sub, zn_pm, br_tt, br_ff, br_ltT, br_ltF, br_leT, br_leF, br_eqT, br_eqF, br_eqs, br_eqm, br_eqm', br_ltm, br_mlt, br_lem, br_mle, br_oiF, br_lgge, br_lgle, br_lggt, br_lglt, br_lgeq, br_zb, br_zb1, bV_s, bI_s, bL_s, zo_n, zo_s]
theorem m5_64 {m : am_M} {a b c d e : Int32} : (mem5 m a b c d e).1 107 64 = e := by unfold mem5; simp (disch := omega) only [w_ne, w_at, wl_ne, wl_at, wc_ne, wc_at, upd_at, upd_ne, upl_at, upl_ne, cpy_in0, zn_cl, zn_add, zn_mul, zn_sub, zn_pm, br_tt, br_ff, br_ltT, br_ltF, br_leT, br_leF, br_eqT, br_eqF, br_eqs, br_eqm, br_eqm', br_ltm, br_mlt, br_lem, br_mle, br_oiF, br_lgge, br_lgle, br_lggt, br_lglt, br_lgeq, br_zb, br_zb1, bV_s, bI_s, bL_s, zo_n, zo_s]
theorem m5_q {m : am_M} {a b c d e : Int32} : fqR m (mem5 m a b c d e) := ⟨fun p hp => m5_c (by omega), fun i hi => by rw [m5_c (by omega), m5_c (by omega), m5_c (by omega)]; exact ⟨rfl, rfl, rfl⟩, by rw [m5_c (by omega)], by rw [m5_c (by omega)], fun i hi => m5_i (by omega), fun _ _ => rfl, rfl, rfl⟩
theorem rx5 {T G F V : Td} {ord : List Nat} {m : am_M} {a b c d e : Int32} (tr : tR T G F m) (f : fl T ord m) (g : gW G F) (h3 : V 3 0 = T 0 2) (h0 : ∀ i, i < T 0 0 → V 0 i = T 3 i)
    (hh : ∀ i, i < T 0 0 → (zn i = d ∧ V 1 i = 1) ∨ (zn i ≠ d ∧ ((c = zn 0 ∧ T 4 i = V 1 i) ∨ (c = zn 1 ∧ ((T 4 i = 2 ∧ V 1 i = 0) ∨ (T 4 i = V 1 i ∧ V 1 i < 2)))))) (hr : ∀ l, l < T 0 1 → (b = zn 0 ∧ T 5 l = V 2 l) ∨ (b = zn 1 ∧ V 2 l = 29)) : rx T V (gE G F) (mem5 m a b c d e) := by
  have t5 := tr.q (m5_q (a := a) (b := b) (c := c) (d := d) (e := e))
  refine ⟨t5.n, t5.L, t5.pl, t5.sz, t5.fg, by rw [m5_i (by omega), h3]; exact f.rl, fun i hi => by rw [m5_c (by omega), h0 i hi]; exact f.cm i hi, fun i hi => ?_, fun l hl => ?_, gR_lw g t5.lw⟩
  · rw [m5_63, m5_62]
    rcases hh i hi with q | ⟨q1, ⟨q2, q3⟩ | ⟨q2, ⟨q3, q4⟩ | ⟨q3, q4⟩⟩⟩
    · exact Or.inl q
    · exact Or.inr ⟨q1, Or.inl ⟨q2, by rw [← q3]; exact t5.hw i hi⟩⟩
    · exact Or.inr ⟨q1, Or.inr ⟨q2, Or.inl ⟨by rw [← q3]; exact t5.hw i hi, q4⟩⟩⟩
    · exact Or.inr ⟨q1, Or.inr ⟨q2, Or.inr ⟨by rw [← q3]; exact t5.hw i hi, q4⟩⟩⟩
  · rw [m5_61]
    rcases hr l hl with ⟨q1, q2⟩ | q
    · exact Or.inl ⟨q1, by rw [← q2]; exact t5.rc l hl⟩
    · exact Or.inr q
theorem rn5 {T : Td} {ord ord' : List Nat} {U : Nat → Nat} {mt mt' : List (Nat × Nat)} {h : Hs} {w : List Nat} {day : Nat} {m : am_M} {a b c d e : Int32} (s : rn 1 T ord U mt h w day m) (f : fl T ord m) (ol : ord.length = T 0 1) (om : ∀ l, l ∈ ord → l < 5) (hm : (a = zn 0 ∧ mt' = mt) ∨ (a = zn 1 ∧ mt' = [])) {lo : Option Nat} (he : e = zo lo) (hlo : ∀ x, lo = some x → x < 5) (ho : ord' = ord.filter (fun l => decide (some l ≠ lo))) : rn 1 T ord' U mt' h w day (mem5 m a b c d e) := by
  refine ⟨by rw [m5_c (by omega)]; exact s.hs, by rw [m5_c (by omega)]; exact s.wl, by rw [m5_c (by omega)]; exact s.ws, by rw [m5_c (by omega)]; exact s.dy, ⟨ord, lo, ol, ?_, by rw [m5_64]; exact he, hlo, om, ho⟩, ?_, ?_, by rw [m5_c (by omega)]; exact s.h5⟩
  · intro i hi; rw [m5_c (by omega), Nat.mul_one]; exact f.os i hi
  · intro l hl; rw [m5_i (by omega), m5_i (by omega), m5_c (by omega)]; exact s.hu l hl
  · rw [m5_60, m5_i (by omega), m5_c (by omega), m5_c (by omega)]
    rcases hm with ⟨q1, q2⟩ | q
    · rcases s.ms with ⟨p1, p2, p3⟩ | ⟨p1, p2⟩
      · subst q2; exact Or.inl ⟨q1, p2, p3⟩
      · rw [f.nm] at p1; exact absurd p1 (by rw [zn_inj (by omega) (by omega)]; omega)
    · exact Or.inr q
/-- the reference's answer -/
theorem tr_r {T G F : Td} {q : Sq} {w : List Nat} {day num n k : Nat} {x2 : Int32} {m : am_M} (c : Core T G F q w day num m) {V : Td} {ord : List Nat} {mt : List (Nat × Nat)} (hn : n ≤ 20) (W : tw T V) (S : sw T ord q.2.1 mt (day + n)) {a b e d1 e1 : Int32} {lo : Option Nat}
    (hrun : r_M_tried_64 7 29999 (zn k) x2 (zn n) m = am_bV (am_c 7 y_M_layTried [.ref 107] m) (fun m1 => r_M_tried_140 7 29998 (zn k) x2 (zn n) (zn 0) (mem5 m1 a b e d1 e1)))
    (h3 : V 3 0 = T 0 2) (h0 : ∀ i, i < T 0 0 → V 0 i = T 3 i) (hh : ∀ i, i < T 0 0 → (zn i = d1 ∧ V 1 i = 1) ∨ (zn i ≠ d1 ∧ ((e = zn 0 ∧ T 4 i = V 1 i) ∨ (e = zn 1 ∧ ((T 4 i = 2 ∧ V 1 i = 0) ∨ (T 4 i = V 1 i ∧ V 1 i < 2)))))) (hr : ∀ l, l < T 0 1 → (b = zn 0 ∧ T 5 l = V 2 l) ∨ (b = zn 1 ∧ V 2 l = 29))
    (hm : (a = zn 0 ∧ mt = q.2.2.1) ∨ (a = zn 1 ∧ mt = [])) (he : e1 = zo lo) (hlo : ∀ x, lo = some x → x < 5) (ho : ord = q.1.filter (fun l => decide (some l ≠ lo))) :
    ∃ m', r_M_tried_64 7 29999 (zn k) x2 (zn n) m = some (some (.int (zn (sp_own (T 0 0) (sp_pn T V (gE G F) q.2.1 ord mt n day q.2.2.2 w).1))), m') ∧ fqR m m' := by
  have hE := gE_evW c.gw c.gf
  have hw5 := hw_len c.qw.hw; have hn5 := c.tw.n; have hL := c.tw.L
  have om : ∀ l, l ∈ q.1 → l < 5 := fun l hl => by have := c.qw.om l hl; omega
  obtain ⟨m1, a1, a2, a3, a4⟩ := s_layT c.tw c.tr c.nr (by omega) om (d := 5)
  have c1 := c.tr.q a4
  obtain ⟨m2, b1, b2⟩ := lq_tr W hE (d := 1) (x1 := zn k) (x2 := x2) hn n 0 29998 day q.2.2.2 w (mem5 m1 a b e d1 e1) (by omega) (by omega) S (rx5 c1 a2 c.gw h3 h0 hh hr) (rn5 a3 a2 c.qw.ol om hm he hlo ho) c.qw.hw
  exact ⟨m2, by rw [hrun, a1, bV_s, b1], fqR_tr a4 (fqR_tr m5_q b2)⟩
