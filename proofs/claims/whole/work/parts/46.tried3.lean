/-! tried: the call -/
def cbt (T : Td) (x y : Int32) : Bool := if x = zn 3 then isN (T 0 0) y else if x = zn 4 then isN (T 0 1) y else (isR (0 : Nat) (2 : Nat) x && decide (y = zn 0))
theorem s_canBe {T G F : Td} {m : am_M} (c : tC T G F m) (W : tW T) {d : Nat} {x y : Int32} : am_c (d + 2) y_C_canBeTried [.ref 0, .int x, .int y] m = some (some (.int (zb (cbt T x y))), m) := by
  rw [n_C_canBeTried, s_isThingC c W, s_isLampC c W, isR_eq (by omega) (by omega), br_eq, br_eq, br_eq]
  unfold cbt
  by_cases h3 : x = zn 3
  · rw [if_pos h3, if_pos h3, bI_s, br_zb, br_zb1]; cases isN (T 0 0) y <;> rfl
  · rw [if_neg h3, if_neg h3]
    by_cases h4 : x = zn 4
    · rw [if_pos h4, if_pos h4, bI_s, br_zb, br_zb1]; cases isN (T 0 1) y <;> rfl
    · rw [if_neg h4, if_neg h4]
      cases isR (0 : Nat) (2 : Nat) x
      · rfl
      · by_cases e : y = zn 0
        · rw [if_pos rfl, if_pos e, decide_eq_true e]; rfl
        · rw [if_pos rfl, if_neg e, decide_eq_false e]; rfl
/-- how the reference comes to its trial -/
theorem tr_in {T G F : Td} {m : am_M} (c : tR T G F m) (W : tW T) {x y z : Int32} : am_c 8 y_M_tried [.ref 107, .int x, .int y, .int z] m = if cbt T x y = true ∧ isR (0 : Nat) (20 : Nat) z = true then r_M_tried_64 7 29999 x y z (am_w m.1 107 2 (zn 0), m.2) else some (some (.int zm), (am_w m.1 107 2 (zn 0), m.2)) := by
  have c2 := c.q (fqR_th m (zn 0))
  have hx4 : cbt T x y = true → isR (0 : Nat) (4 : Nat) x = true := by
    unfold cbt isR
    intro h
    rw [decide_eq_true_eq]
    by_cases h3 : x = zn 3
    · rw [h3, zn_i (by omega)]; omega
    · by_cases h4 : x = zn 4
      · rw [h4, zn_i (by omega)]; omega
      · rw [if_neg h3, if_neg h4, Bool.and_eq_true, decide_eq_true_eq] at h; omega
  rw [n_M_tried, s_isInN (by omega) (by omega), bI_s, br_zb, s_isInN (by omega) (by omega), bI_s, br_zb, s_isThingR c2 W, bI_s, br_zb, s_isLampR c2 W, bI_s, br_zb, br_eq, br_eq, br_eq]
  cases e4 : isR (0 : Nat) (4 : Nat) x with
  | false =>
    rw [if_neg (by simp), if_neg (fun q => by rw [hx4 q.1] at e4; cases e4)]
  | true =>
    rw [if_pos rfl]
    cases ez : isR (0 : Nat) (20 : Nat) z with
    | false => rw [if_neg (by simp), if_neg (fun q => by cases q.2)]
    | true =>
      rw [if_pos rfl]
      unfold cbt
      by_cases h3 : x = zn 3
      · rw [if_pos h3, if_pos h3]
        cases isN (T 0 0) y
        · rw [if_neg (by simp), if_neg (by simp)]
        · rw [if_pos rfl, if_pos (by simp)]
      · rw [if_neg h3, if_neg h3]
        by_cases h4 : x = zn 4
        · rw [if_pos h4, if_pos h4]
          cases isN (T 0 1) y
          · rw [if_neg (by simp), if_neg (by simp)]
          · rw [if_pos rfl, if_pos (by simp)]
        · rw [if_neg h4, if_neg h4]
          have h2 : isR (0 : Nat) (2 : Nat) x = true := by
            unfold isR at e4 ⊢; rw [decide_eq_true_eq] at e4 ⊢
            have n3 : x.toInt ≠ 3 := fun e => h3 (Int32.toInt_inj.mp (by rw [e, zn_i (by omega)]; rfl))
            have n4 : x.toInt ≠ 4 := fun e => h4 (Int32.toInt_inj.mp (by rw [e, zn_i (by omega)]; rfl))
            omega
          rw [h2]
          by_cases e : y = zn 0
          · rw [if_pos e, if_pos (by simp [e])]
          · rw [if_neg e, if_neg (by simp [e])]
theorem k_tried (x y z : Int32) : ask y_C_tried y_M_tried [.int x, .int y, .int z] := by
  refine ask_of fun T G F q w day num m c r => ?_
  have hE := gE_evW c.gw c.gf
  have hw5 := hw_len c.qw.hw; have hn5 := c.tw.n; have hL := c.tw.L; have ol := c.qw.ol; have hdb := c.db
  have hk : sc_k 85 := Or.inr (Or.inr (Or.inr (Or.inr rfl)))
  have cb := s_canBe c.tc c.tw (d := 5) (x := x) (y := y)
  by_cases ok : cbt T x y = true ∧ isR (0 : Nat) (20 : Nat) z = true
  · obtain ⟨m1, a1, a2, a3, a4⟩ := s_copy hk (Or.inr (Or.inr (Or.inl rfl))) (by omega) c.tw c.sc (by omega) (by omega) c.qw.ml (d := 6)
    have fq1 : fqC m m1 := a4.q (by omega)
    have c1 := c.qC fq1
    have cx1 := c1.tc.cx c.gw
    have fin : ∀ (k n : Nat) (V : Td) (ord : List Nat) (mt : List (Nat × Nat)) (m2 : am_M) (a b e d1 e1 : Int32) (lo : Option Nat), x = zn k → z = zn n → n ≤ 20 → tw T V → sw T ord q.2.1 mt (day + n) → cx T V (gE G F) m2 → sn 85 T ord q.2.1 mt q.2.2.2 w day m2 →
        (∀ c, c ≤ 24 ∨ 27 ≤ c ∧ c ≤ 45 ∨ 71 ≤ c ∧ c ≤ 84 ∨ 97 ≤ c ∧ c ≤ 100 ∨ 102 ≤ c → m2.1 c = m1.1 c) → m2.2 = m1.2 → (∀ i, 5 ≤ i → m2.1 47 i = m1.1 47 i ∧ m2.1 48 i = m1.1 48 i ∧ m2.1 49 i = m1.1 49 i) → (∀ i, i ≠ 3 → m2.1 46 i = m1.1 46 i) →
        (am_c 8 y_C_tried [.ref 0, .int x, .int y, .int z] m = r_C_tried_119 7 29999 x y (zn n) (zn 0) m2) →
        (∀ m, r_M_tried_64 7 29999 (zn k) y (zn n) m = am_bV (am_c 7 y_M_layTried [.ref 107] m) (fun m1 => r_M_tried_140 7 29998 (zn k) y (zn n) (zn 0) (mem5 m1 a b e d1 e1))) →
        V 3 0 = T 0 2 → (∀ i, i < T 0 0 → V 0 i = T 3 i) → (∀ i, i < T 0 0 → (zn i = d1 ∧ V 1 i = 1) ∨ (zn i ≠ d1 ∧ ((e = zn 0 ∧ T 4 i = V 1 i) ∨ (e = zn 1 ∧ ((T 4 i = 2 ∧ V 1 i = 0) ∨ (T 4 i = V 1 i ∧ V 1 i < 2)))))) → (∀ l, l < T 0 1 → (b = zn 0 ∧ T 5 l = V 2 l) ∨ (b = zn 1 ∧ V 2 l = 29)) → ((a = zn 0 ∧ mt = q.2.2.1) ∨ (a = zn 1 ∧ mt = [])) → e1 = zo lo → (∀ x, lo = some x → x < 5) → ord = q.1.filter (fun l => decide (some l ≠ lo)) →
        ∃ r m1, am_c 8 y_C_tried [.ref 0, .int x, .int y, .int z] m = some (r, m1) ∧ fqC m m1 ∧ (Core T G F q w day num m1 → Rest T q w m1 → ∃ m2, am_c 8 y_M_tried [.ref 107, .int x, .int y, .int z] m1 = some (r, m2) ∧ fqR m1 m2) := by
      intro k n V ord mt m2 a b e d1 e1 lo hx hz hn W S cx2 s2 f0 f1 f2 f3 hc hm h3 h0 hh hr hmt he hlo ho
      obtain ⟨m3, g1, g2⟩ := tr_c c1 (x1 := x) (x2 := y) hn W S cx2 s2 f0 (fun c _ => by rw [f1]) f2 f3
      refine ⟨_, m3, by rw [hc]; exact g1, fqC_tr fq1 g2, fun c5 r5 => ?_⟩
      have c6 := c5.qR (fqR_th m3 (zn 0))
      obtain ⟨m4, i1, i2⟩ := tr_r c6 (k := k) (x2 := y) hn W S (hm _) h3 h0 hh hr hmt he hlo ho
      refine ⟨m4, ?_, fqR_tr (fqR_th m3 (zn 0)) i2⟩
      rw [tr_in c5.tr c.tw, if_pos ok, hx, hz]; exact i1
    obtain ⟨n, _, n2, hz⟩ := isR_t ok.2
    have S0 := c.qw.sw c.tw (day := day + n) (by omega)
    have hf0 : q.1 = q.1.filter (fun l => decide (some l ≠ none)) := by rw [List.filter_eq_self.mpr]; intro a _; simp
    have hV0 : ∀ i, i < T 0 0 → (zn i = zm ∧ V0 T 1 i = 1) ∨ (zn i ≠ zm ∧ ((zn 0 = zn 0 ∧ T 4 i = V0 T 1 i) ∨ ((zn 0 : Int32) = zn 1 ∧ ((T 4 i = 2 ∧ V0 T 1 i = 0) ∨ (T 4 i = V0 T 1 i ∧ V0 T 1 i < 2))))) := fun i hi => Or.inr ⟨zn_zm (by omega), Or.inl ⟨rfl, rfl⟩⟩
    have hR0 : ∀ l, l < T 0 1 → ((zn 0 : Int32) = zn 0 ∧ T 5 l = V0 T 2 l) ∨ ((zn 0 : Int32) = zn 1 ∧ V0 T 2 l = 29) := fun l hl => Or.inl ⟨rfl, rfl⟩
    have start : ∀ k, x = zn k → k < 5 → am_c 8 y_C_tried [.ref 0, .int x, .int y, .int z] m = am_b (am_eq x (zn 0)) (r_C_tried_119 7 29999 x y z (zn 0) (am_w m1.1 85 9 (zn 0), m1.2)) (am_b (am_eq x (zn 1)) (am_bV (am_c 7 y_Ways_reachAll [.ref 46] m1) (fun m4 => r_C_tried_119 7 29999 x y z (zn 0) m4)) (am_b (am_eq x (zn 2)) (am_bV (am_c 7 y_Ways_cheerAll [.ref 46] m1) (fun m5 => r_C_tried_119 7 29999 x y z (zn 0) m5)) (am_b (am_eq x (zn 3)) (am_b (am_oi y 5) none (r_C_tried_119 7 29999 x y z (zn 0) (am_w m1.1 48 y.toNatClampNeg (zn 1), m1.2))) (am_bV (am_c 7 y_Scene_takeDown [.ref 85, .int y] m1) (fun m6 => r_C_tried_119 7 29999 x y z (zn 0) m6))))) := by
      intro k _ _
      rw [n_C_tried, isR_eq (by omega) (by omega), if_pos ok.2, cb, ok.1, bI_s, br_zb, if_pos rfl, a1, bV_s]
    have okc := ok.1
    unfold cbt at okc
    by_cases h3 : x = zn 3
    · rw [if_pos h3] at okc
      obtain ⟨t, ht, hy⟩ := isN_t okc
      refine fin 3 n (V3 T t) q.1 q.2.2.1 (am_w m1.1 48 t (zn 1), m1.2) (zn 0) (zn 0) (zn 0) (zn t) zm none h3 hz n2 (tw3 c.tw) S0 ⟨cx1.n, cx1.L, cx1.pl, cx1.sz, cx1.fg, cx1.rl, cx1.cm, fun i hi => ?_, cx1.rc, lwC_mono cx1.lw (fun c _ _ => by simp (disch := omega) only [w_ne, w_at, wl_ne, wl_at, wc_ne, wc_at, upd_at, upd_ne, upl_at, upl_ne, cpy_in0, zn_cl, zn_add, zn_mul, zn_sub, zn_pm, br_tt, br_ff, br_ltT, br_ltF, br_leT, br_leF, br_eqT, br_eqF, br_eqs, br_eqm, br_eqm', br_ltm, br_mlt, br_lem, br_mle, br_oiF, br_lgge, br_lgle, br_lggt, br_lglt, br_lgeq, br_zb, br_zb1, bV_s, bI_s, bL_s, zo_n, zo_s])⟩ (a2.mono (fun c _ _ => by simp (disch := omega) only [w_ne, w_at, wl_ne, wl_at, wc_ne, wc_at, upd_at, upd_ne, upl_at, upl_ne, cpy_in0, zn_cl, zn_add, zn_mul, zn_sub, zn_pm, br_tt, br_ff, br_ltT, br_ltF, br_leT, br_leF, br_eqT, br_eqF, br_eqs, br_eqm, br_eqm', br_ltm, br_mlt, br_lem, br_mle, br_oiF, br_lgge, br_lgle, br_lggt, br_lglt, br_lgeq, br_zb, br_zb1, bV_s, bI_s, bL_s, zo_n, zo_s])) (fun c hc => by simp (disch := omega) only [w_ne, w_at, wl_ne, wl_at, wc_ne, wc_at, upd_at, upd_ne, upl_at, upl_ne, cpy_in0, zn_cl, zn_add, zn_mul, zn_sub, zn_pm, br_tt, br_ff, br_ltT, br_ltF, br_leT, br_leF, br_eqT, br_eqF, br_eqs, br_eqm, br_eqm', br_ltm, br_mlt, br_lem, br_mle, br_oiF, br_lgge, br_lgle, br_lggt, br_lglt, br_lgeq, br_zb, br_zb1, bV_s, bI_s, bL_s, zo_n, zo_s]) rfl (fun i hi => ⟨by simp (disch := omega) only [w_ne, w_at, wl_ne, wl_at, wc_ne, wc_at, upd_at, upd_ne, upl_at, upl_ne, cpy_in0, zn_cl, zn_add, zn_mul, zn_sub, zn_pm, br_tt, br_ff, br_ltT, br_ltF, br_leT, br_leF, br_eqT, br_eqF, br_eqs, br_eqm, br_eqm', br_ltm, br_mlt, br_lem, br_mle, br_oiF, br_lgge, br_lgle, br_lggt, br_lglt, br_lgeq, br_zb, br_zb1, bV_s, bI_s, bL_s, zo_n, zo_s], by simp (disch := omega) only [w_ne, w_at, wl_ne, wl_at, wc_ne, wc_at, upd_at, upd_ne, upl_at, upl_ne, cpy_in0, zn_cl, zn_add, zn_mul, zn_sub, zn_pm, br_tt, br_ff, br_ltT, br_ltF, br_leT, br_leF, br_eqT, br_eqF, br_eqs, br_eqm, br_eqm', br_ltm, br_mlt, br_lem, br_mle, br_oiF, br_lgge, br_lgle, br_lggt, br_lglt, br_lgeq, br_zb, br_zb1, bV_s, bI_s, bL_s, zo_n, zo_s], by simp (disch := omega) only [w_ne, w_at, wl_ne, wl_at, wc_ne, wc_at, upd_at, upd_ne, upl_at, upl_ne, cpy_in0, zn_cl, zn_add, zn_mul, zn_sub, zn_pm, br_tt, br_ff, br_ltT, br_ltF, br_leT, br_leF, br_eqT, br_eqF, br_eqs, br_eqm, br_eqm', br_ltm, br_mlt, br_lem, br_mle, br_oiF, br_lgge, br_lgle, br_lggt, br_lglt, br_lgeq, br_zb, br_zb1, bV_s, bI_s, bL_s, zo_n, zo_s]⟩) (fun i hi => by simp (disch := omega) only [w_ne, w_at, wl_ne, wl_at, wc_ne, wc_at, upd_at, upd_ne, upl_at, upl_ne, cpy_in0, zn_cl, zn_add, zn_mul, zn_sub, zn_pm, br_tt, br_ff, br_ltT, br_ltF, br_leT, br_leF, br_eqT, br_eqF, br_eqs, br_eqm, br_eqm', br_ltm, br_mlt, br_lem, br_mle, br_oiF, br_lgge, br_lgle, br_lggt, br_lglt, br_lgeq, br_zb, br_zb1, bV_s, bI_s, bL_s, zo_n, zo_s]) ?_ ?_ rfl (fun _ _ => rfl) (fun i hi => ?_) hR0 (Or.inl ⟨rfl, rfl⟩) rfl (by intro x h; cases h) hf0
      · show (am_w m1.1 48 t (zn 1)) 48 i = zn (if i = t then 1 else T 4 i)
        by_cases e : i = t
        · subst e; rw [if_pos rfl]; simp (disch := omega) only [w_ne, w_at, wl_ne, wl_at, wc_ne, wc_at, upd_at, upd_ne, upl_at, upl_ne, cpy_in0, zn_cl, zn_add, zn_mul, zn_sub, zn_pm, br_tt, br_ff, br_ltT, br_ltF, br_leT, br_leF, br_eqT, br_eqF, br_eqs, br_eqm, br_eqm', br_ltm, br_mlt, br_lem, br_mle, br_oiF, br_lgge, br_lgle, br_lggt, br_lglt, br_lgeq, br_zb, br_zb1, bV_s, bI_s, bL_s, zo_n, zo_s]
        · rw [if_neg e]; simp (disch := omega) only [w_ne, w_at, wl_ne, wl_at, wc_ne, wc_at, upd_at, upd_ne, upl_at, upl_ne, cpy_in0, zn_cl, zn_add, zn_mul, zn_sub, zn_pm, br_tt, br_ff, br_ltT, br_ltF, br_leT, br_leF, br_eqT, br_eqF, br_eqs, br_eqm, br_eqm', br_ltm, br_mlt, br_lem, br_mle, br_oiF, br_lgge, br_lgle, br_lggt, br_lglt, br_lgeq, br_zb, br_zb1, bV_s, bI_s, bL_s, zo_n, zo_s]; exact cx1.hw i hi
      · rw [start 3 h3 (by omega), h3, hy, hz]; simp (disch := omega) only [w_ne, w_at, wl_ne, wl_at, wc_ne, wc_at, upd_at, upd_ne, upl_at, upl_ne, cpy_in0, zn_cl, zn_add, zn_mul, zn_sub, zn_pm, br_tt, br_ff, br_ltT, br_ltF, br_leT, br_leF, br_eqT, br_eqF, br_eqs, br_eqm, br_eqm', br_ltm, br_mlt, br_lem, br_mle, br_oiF, br_lgge, br_lgle, br_lggt, br_lglt, br_lgeq, br_zb, br_zb1, bV_s, bI_s, bL_s, zo_n, zo_s]
      · intro m; rw [e_M_tried_64 7 29998, hy]; simp (disch := omega) only [↓br_eqT, ↓br_eqF]; rfl
      · show (zn i = zn t ∧ (if i = t then 1 else T 4 i) = 1) ∨ (zn i ≠ zn t ∧ _)
        by_cases e : i = t
        · exact Or.inl ⟨by rw [e], if_pos e⟩
        · exact Or.inr ⟨by rw [ne_eq, zn_inj (by omega) (by omega)]; exact e, Or.inl ⟨rfl, (if_neg e).symm⟩⟩
    · rw [if_neg h3] at okc
      by_cases h4 : x = zn 4
      · rw [if_pos h4] at okc
        obtain ⟨l, hl, hy⟩ := isN_t okc
        obtain ⟨m2, g1, g2, g3, g4⟩ := s_down hk a2 c.qw.nd (by omega) (fun x hx => by have := c.qw.om x hx; omega) (c.qw.oa l hl) (d := 5)
        refine fin 4 n (V0 T) (q.1.filter (fun x => decide (some x ≠ some l))) q.2.2.1 m2 (zn 0) (zn 0) (zn 0) zm (zn l) (some l) h4 hz n2 c.tw.tw ⟨by have := List.length_filter_le (fun x => decide (some x ≠ some l)) q.1; omega, fun x hx => c.qw.om x (List.mem_filter.mp hx).1, c.qw.hu, c.qw.ml, S0.ms, S0.dy⟩ (cx1.mono (fun c _ _ => g4 c (by omega) (by omega))) g2 (fun c hc => g4 c (by omega) (by omega)) g3 (fun i hi => by rw [g4 47 (by omega) (by omega), g4 48 (by omega) (by omega), g4 49 (by omega) (by omega)]; exact ⟨rfl, rfl, rfl⟩) (fun i hi => by rw [g4 46 (by omega) (by omega)]) ?_ ?_ rfl (fun _ _ => rfl) hV0 hR0 (Or.inl ⟨rfl, rfl⟩) rfl (by intro x h; cases h; omega) rfl
        · rw [start 4 h4 (by omega), h4, hy, hz]; simp (disch := omega) only [w_ne, w_at, wl_ne, wl_at, wc_ne, wc_at, upd_at, upd_ne, upl_at, upl_ne, cpy_in0, zn_cl, zn_add, zn_mul, zn_sub, zn_pm, br_tt, br_ff, br_ltT, br_ltF, br_leT, br_leF, br_eqT, br_eqF, br_eqs, br_eqm, br_eqm', br_ltm, br_mlt, br_lem, br_mle, br_oiF, br_lgge, br_lgle, br_lggt, br_lglt, br_lgeq, br_zb, br_zb1, bV_s, bI_s, bL_s, zo_n, zo_s, g1]
        · intro m; rw [e_M_tried_64 7 29998, hy]; simp (disch := omega) only [↓br_eqT, ↓br_eqF]; rfl
      · rw [if_neg h4, Bool.and_eq_true, decide_eq_true_eq] at okc
        obtain ⟨k, _, k2, hx⟩ := isR_t okc.1
        have hy := okc.2
        rcases (by omega : k = 0 ∨ k = 1 ∨ k = 2) with e | e | e
        · subst e
          refine fin 0 n (V0 T) q.1 [] (am_w m1.1 85 9 (zn 0), m1.2) (zn 1) (zn 0) (zn 0) zm zm none hx hz n2 c.tw.tw ⟨S0.ol, S0.os, S0.hu, (by simp), (by intro p hp; cases hp), S0.dy⟩ (cx1.mono (fun c _ _ => by simp (disch := omega) only [w_ne, w_at, wl_ne, wl_at, wc_ne, wc_at, upd_at, upd_ne, upl_at, upl_ne, cpy_in0, zn_cl, zn_add, zn_mul, zn_sub, zn_pm, br_tt, br_ff, br_ltT, br_ltF, br_leT, br_leF, br_eqT, br_eqF, br_eqs, br_eqm, br_eqm', br_ltm, br_mlt, br_lem, br_mle, br_oiF, br_lgge, br_lgle, br_lggt, br_lglt, br_lgeq, br_zb, br_zb1, bV_s, bI_s, bL_s, zo_n, zo_s])) ⟨?_, ?_, ?_, ?_, ?_, ?_, ?_, ?_, ?_, ?_⟩ (fun c hc => by simp (disch := omega) only [w_ne, w_at, wl_ne, wl_at, wc_ne, wc_at, upd_at, upd_ne, upl_at, upl_ne, cpy_in0, zn_cl, zn_add, zn_mul, zn_sub, zn_pm, br_tt, br_ff, br_ltT, br_ltF, br_leT, br_leF, br_eqT, br_eqF, br_eqs, br_eqm, br_eqm', br_ltm, br_mlt, br_lem, br_mle, br_oiF, br_lgge, br_lgle, br_lggt, br_lglt, br_lgeq, br_zb, br_zb1, bV_s, bI_s, bL_s, zo_n, zo_s]) rfl (fun i hi => ⟨by simp (disch := omega) only [w_ne, w_at, wl_ne, wl_at, wc_ne, wc_at, upd_at, upd_ne, upl_at, upl_ne, cpy_in0, zn_cl, zn_add, zn_mul, zn_sub, zn_pm, br_tt, br_ff, br_ltT, br_ltF, br_leT, br_leF, br_eqT, br_eqF, br_eqs, br_eqm, br_eqm', br_ltm, br_mlt, br_lem, br_mle, br_oiF, br_lgge, br_lgle, br_lggt, br_lglt, br_lgeq, br_zb, br_zb1, bV_s, bI_s, bL_s, zo_n, zo_s], by simp (disch := omega) only [w_ne, w_at, wl_ne, wl_at, wc_ne, wc_at, upd_at, upd_ne, upl_at, upl_ne, cpy_in0, zn_cl, zn_add, zn_mul, zn_sub, zn_pm, br_tt, br_ff, br_ltT, br_ltF, br_leT, br_leF, br_eqT, br_eqF, br_eqs, br_eqm, br_eqm', br_ltm, br_mlt, br_lem, br_mle, br_oiF, br_lgge, br_lgle, br_lggt, br_lglt, br_lgeq, br_zb, br_zb1, bV_s, bI_s, bL_s, zo_n, zo_s], by simp (disch := omega) only [w_ne, w_at, wl_ne, wl_at, wc_ne, wc_at, upd_at, upd_ne, upl_at, upl_ne, cpy_in0, zn_cl, zn_add, zn_mul, zn_sub, zn_pm, br_tt, br_ff, br_ltT, br_ltF, br_leT, br_leF, br_eqT, br_eqF, br_eqs, br_eqm, br_eqm', br_ltm, br_mlt, br_lem, br_mle, br_oiF, br_lgge, br_lgle, br_lggt, br_lglt, br_lgeq, br_zb, br_zb1, bV_s, bI_s, bL_s, zo_n, zo_s]⟩) (fun i hi => by simp (disch := omega) only [w_ne, w_at, wl_ne, wl_at, wc_ne, wc_at, upd_at, upd_ne, upl_at, upl_ne, cpy_in0, zn_cl, zn_add, zn_mul, zn_sub, zn_pm, br_tt, br_ff, br_ltT, br_ltF, br_leT, br_leF, br_eqT, br_eqF, br_eqs, br_eqm, br_eqm', br_ltm, br_mlt, br_lem, br_mle, br_oiF, br_lgge, br_lgle, br_lggt, br_lglt, br_lgeq, br_zb, br_zb1, bV_s, bI_s, bL_s, zo_n, zo_s]) ?_ ?_ rfl (fun _ _ => rfl) hV0 hR0 (Or.inr ⟨rfl, rfl⟩) rfl (by intro x h; cases h) hf0
          · simp (disch := omega) only [w_ne, w_at, wl_ne, wl_at, wc_ne, wc_at, upd_at, upd_ne, upl_at, upl_ne, cpy_in0, zn_cl, zn_add, zn_mul, zn_sub, zn_pm, br_tt, br_ff, br_ltT, br_ltF, br_leT, br_leF, br_eqT, br_eqF, br_eqs, br_eqm, br_eqm', br_ltm, br_mlt, br_lem, br_mle, br_oiF, br_lgge, br_lgle, br_lggt, br_lglt, br_lgeq, br_zb, br_zb1, bV_s, bI_s, bL_s, zo_n, zo_s, a2.n]
          · intro i hi; simp (disch := omega) only [w_ne, w_at, wl_ne, wl_at, wc_ne, wc_at, upd_at, upd_ne, upl_at, upl_ne, cpy_in0, zn_cl, zn_add, zn_mul, zn_sub, zn_pm, br_tt, br_ff, br_ltT, br_ltF, br_leT, br_leF, br_eqT, br_eqF, br_eqs, br_eqm, br_eqm', br_ltm, br_mlt, br_lem, br_mle, br_oiF, br_lgge, br_lgle, br_lggt, br_lglt, br_lgeq, br_zb, br_zb1, bV_s, bI_s, bL_s, zo_n, zo_s, a2.hs]
          · simp (disch := omega) only [w_ne, w_at, wl_ne, wl_at, wc_ne, wc_at, upd_at, upd_ne, upl_at, upl_ne, cpy_in0, zn_cl, zn_add, zn_mul, zn_sub, zn_pm, br_tt, br_ff, br_ltT, br_ltF, br_leT, br_leF, br_eqT, br_eqF, br_eqs, br_eqm, br_eqm', br_ltm, br_mlt, br_lem, br_mle, br_oiF, br_lgge, br_lgle, br_lggt, br_lglt, br_lgeq, br_zb, br_zb1, bV_s, bI_s, bL_s, zo_n, zo_s, a2.wl]
          · intro i hi; simp (disch := omega) only [w_ne, w_at, wl_ne, wl_at, wc_ne, wc_at, upd_at, upd_ne, upl_at, upl_ne, cpy_in0, zn_cl, zn_add, zn_mul, zn_sub, zn_pm, br_tt, br_ff, br_ltT, br_ltF, br_leT, br_leF, br_eqT, br_eqF, br_eqs, br_eqm, br_eqm', br_ltm, br_mlt, br_lem, br_mle, br_oiF, br_lgge, br_lgle, br_lggt, br_lglt, br_lgeq, br_zb, br_zb1, bV_s, bI_s, bL_s, zo_n, zo_s, a2.ws]
          · simp (disch := omega) only [w_ne, w_at, wl_ne, wl_at, wc_ne, wc_at, upd_at, upd_ne, upl_at, upl_ne, cpy_in0, zn_cl, zn_add, zn_mul, zn_sub, zn_pm, br_tt, br_ff, br_ltT, br_ltF, br_leT, br_leF, br_eqT, br_eqF, br_eqs, br_eqm, br_eqm', br_ltm, br_mlt, br_lem, br_mle, br_oiF, br_lgge, br_lgle, br_lggt, br_lglt, br_lgeq, br_zb, br_zb1, bV_s, bI_s, bL_s, zo_n, zo_s, a2.dy]
          · simp (disch := omega) only [w_ne, w_at, wl_ne, wl_at, wc_ne, wc_at, upd_at, upd_ne, upl_at, upl_ne, cpy_in0, zn_cl, zn_add, zn_mul, zn_sub, zn_pm, br_tt, br_ff, br_ltT, br_ltF, br_leT, br_leF, br_eqT, br_eqF, br_eqs, br_eqm, br_eqm', br_ltm, br_mlt, br_lem, br_mle, br_oiF, br_lgge, br_lgle, br_lggt, br_lglt, br_lgeq, br_zb, br_zb1, bV_s, bI_s, bL_s, zo_n, zo_s, a2.ol]
          · intro i hi; simp (disch := omega) only [w_ne, w_at, wl_ne, wl_at, wc_ne, wc_at, upd_at, upd_ne, upl_at, upl_ne, cpy_in0, zn_cl, zn_add, zn_mul, zn_sub, zn_pm, br_tt, br_ff, br_ltT, br_ltF, br_leT, br_leF, br_eqT, br_eqF, br_eqs, br_eqm, br_eqm', br_ltm, br_mlt, br_lem, br_mle, br_oiF, br_lgge, br_lgle, br_lggt, br_lglt, br_lgeq, br_zb, br_zb1, bV_s, bI_s, bL_s, zo_n, zo_s, a2.os]
          · intro i hi; simp (disch := omega) only [w_ne, w_at, wl_ne, wl_at, wc_ne, wc_at, upd_at, upd_ne, upl_at, upl_ne, cpy_in0, zn_cl, zn_add, zn_mul, zn_sub, zn_pm, br_tt, br_ff, br_ltT, br_ltF, br_leT, br_leF, br_eqT, br_eqF, br_eqs, br_eqm, br_eqm', br_ltm, br_mlt, br_lem, br_mle, br_oiF, br_lgge, br_lgle, br_lggt, br_lglt, br_lgeq, br_zb, br_zb1, bV_s, bI_s, bL_s, zo_n, zo_s, a2.hu]
          · simp (disch := omega) only [w_ne, w_at, wl_ne, wl_at, wc_ne, wc_at, upd_at, upd_ne, upl_at, upl_ne, cpy_in0, zn_cl, zn_add, zn_mul, zn_sub, zn_pm, br_tt, br_ff, br_ltT, br_ltF, br_leT, br_leF, br_eqT, br_eqF, br_eqs, br_eqm, br_eqm', br_ltm, br_mlt, br_lem, br_mle, br_oiF, br_lgge, br_lgle, br_lggt, br_lglt, br_lgeq, br_zb, br_zb1, bV_s, bI_s, bL_s, zo_n, zo_s]; rfl
          · intro i hi; exact absurd hi (by simp)
          · rw [start 0 hx (by omega), hx, hz]; simp (disch := omega) only [w_ne, w_at, wl_ne, wl_at, wc_ne, wc_at, upd_at, upd_ne, upl_at, upl_ne, cpy_in0, zn_cl, zn_add, zn_mul, zn_sub, zn_pm, br_tt, br_ff, br_ltT, br_ltF, br_leT, br_leF, br_eqT, br_eqF, br_eqs, br_eqm, br_eqm', br_ltm, br_mlt, br_lem, br_mle, br_oiF, br_lgge, br_lgle, br_lggt, br_lglt, br_lgeq, br_zb, br_zb1, bV_s, bI_s, bL_s, zo_n, zo_s]
          · intro m; rw [e_M_tried_64 7 29998]; simp (disch := omega) only [↓br_eqT, ↓br_eqF]; rfl
        · subst e
          obtain ⟨m2, g1, g2, g3, g4, g5⟩ := lp_reachAll (d := 6) 5 0 29999 m1 (by omega) (by omega)
          refine fin 1 n (V1 T) q.1 q.2.2.1 m2 (zn 0) (zn 1) (zn 0) zm zm none hx hz n2 (tw1 c.tw) S0 ⟨by rw [g3 27 (by omega)]; exact cx1.n, by rw [g3 27 (by omega)]; exact cx1.L, by rw [g3 29 (by omega)]; exact cx1.pl, by rw [g3 30 (by omega)]; exact cx1.sz, by rw [g3 27 (by omega)]; exact cx1.fg, by rw [g3 46 (by omega)]; exact cx1.rl, by rw [g3 47 (by omega)]; exact cx1.cm, by rw [g3 48 (by omega)]; exact cx1.hw, fun l hl => g4 l (by omega) (by omega), lwC_mono cx1.lw (fun c _ _ => g3 c (by omega))⟩ (a2.mono (fun c _ _ => g3 c (by omega))) (fun c hc => g3 c (by omega)) g2 (fun i hi => ⟨by rw [g3 47 (by omega)], by rw [g3 48 (by omega)], g5 i (by omega)⟩) (fun i hi => by rw [g3 46 (by omega)]) ?_ ?_ rfl (fun _ _ => rfl) hV0 (fun l hl => Or.inr ⟨rfl, rfl⟩) (Or.inl ⟨rfl, rfl⟩) rfl (by intro x h; cases h) hf0
          · rw [start 1 hx (by omega), hx, hz, n_Ways_reachAll, g1]; simp (disch := omega) only [w_ne, w_at, wl_ne, wl_at, wc_ne, wc_at, upd_at, upd_ne, upl_at, upl_ne, cpy_in0, zn_cl, zn_add, zn_mul, zn_sub, zn_pm, br_tt, br_ff, br_ltT, br_ltF, br_leT, br_leF, br_eqT, br_eqF, br_eqs, br_eqm, br_eqm', br_ltm, br_mlt, br_lem, br_mle, br_oiF, br_lgge, br_lgle, br_lggt, br_lglt, br_lgeq, br_zb, br_zb1, bV_s, bI_s, bL_s, zo_n, zo_s]
          · intro m; rw [e_M_tried_64 7 29998]; simp (disch := omega) only [↓br_eqT, ↓br_eqF]; rfl
        · subst e
          obtain ⟨m2, g1, g2, g3, g4, g5⟩ := lp_cheerAll (d := 6) 5 0 29999 m1 (by omega) (by omega)
          refine fin 2 n (V2 T) q.1 q.2.2.1 m2 (zn 0) (zn 0) (zn 1) zm zm none hx hz n2 (tw2 c.tw) S0 ⟨by rw [g3 27 (by omega)]; exact cx1.n, by rw [g3 27 (by omega)]; exact cx1.L, by rw [g3 29 (by omega)]; exact cx1.pl, by rw [g3 30 (by omega)]; exact cx1.sz, by rw [g3 27 (by omega)]; exact cx1.fg, by rw [g3 46 (by omega)]; exact cx1.rl, by rw [g3 47 (by omega)]; exact cx1.cm, fun i hi => ?_, by rw [g3 49 (by omega)]; exact cx1.rc, lwC_mono cx1.lw (fun c _ _ => g3 c (by omega))⟩ (a2.mono (fun c _ _ => g3 c (by omega))) (fun c hc => g3 c (by omega)) g2 (fun i hi => ⟨by rw [g3 47 (by omega)], g5 i (by omega), by rw [g3 49 (by omega)]⟩) (fun i hi => by rw [g3 46 (by omega)]) ?_ ?_ rfl (fun _ _ => rfl) (fun i hi => ?_) hR0 (Or.inl ⟨rfl, rfl⟩) rfl (by intro x h; cases h) hf0
          · have := c.tw.hw i hi
            have hw1 : m1.1 48 i = zn (T 4 i) := cx1.hw i hi
            show m2.1 48 i = zn (if T 4 i = 2 then 0 else T 4 i)
            rw [g4 i (by omega) (by omega), hw1]
            by_cases e : T 4 i = 2
            · rw [if_pos (by rw [e]), if_pos e]
            · rw [if_neg (by rw [zn_inj (by omega) (by omega)]; exact e), if_neg e]
          · rw [start 2 hx (by omega), hx, hz, n_Ways_cheerAll, g1]; simp (disch := omega) only [w_ne, w_at, wl_ne, wl_at, wc_ne, wc_at, upd_at, upd_ne, upl_at, upl_ne, cpy_in0, zn_cl, zn_add, zn_mul, zn_sub, zn_pm, br_tt, br_ff, br_ltT, br_ltF, br_leT, br_leF, br_eqT, br_eqF, br_eqs, br_eqm, br_eqm', br_ltm, br_mlt, br_lem, br_mle, br_oiF, br_lgge, br_lgle, br_lggt, br_lglt, br_lgeq, br_zb, br_zb1, bV_s, bI_s, bL_s, zo_n, zo_s]
          · intro m; rw [e_M_tried_64 7 29998]; simp (disch := omega) only [↓br_eqT, ↓br_eqF]; rfl
          · have := c.tw.hw i hi
            refine Or.inr ⟨zn_zm (by omega), Or.inr ⟨rfl, ?_⟩⟩
            show (T 4 i = 2 ∧ (if T 4 i = 2 then 0 else T 4 i) = 0) ∨ (T 4 i = (if T 4 i = 2 then 0 else T 4 i) ∧ (if T 4 i = 2 then 0 else T 4 i) < 2)
            by_cases e : T 4 i = 2
            · exact Or.inl ⟨e, if_pos e⟩
            · rw [if_neg e]; exact Or.inr ⟨rfl, by omega⟩
  · refine ⟨some (.int zm), m, ?_, fqC_refl m, fun c1 r1 => ⟨_, by rw [tr_in c1.tr c.tw, if_neg ok], fqR_th m (zn 0)⟩⟩
    rw [n_C_tried, isR_eq (by omega) (by omega), cb, bI_s, br_zb]
    by_cases e1 : isR (0 : Nat) (20 : Nat) z = true
    · rw [if_pos e1, if_neg (fun e2 => ok ⟨e2, e1⟩)]
    · rw [if_neg e1]
