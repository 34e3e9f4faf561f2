/-! rests, rest: the reference, the calls -/
/-- as s_layT, with all that stays -/
theorem s_layT2 {T G F : Td} (W : tW T) {ord : List Nat} {U : Nat → Nat} {mt : List (Nat × Nat)} {h : Hs} {w : List Nat} {day num d : Nat} {m : am_M} (c : tR T G F m) (s : nR T ord U mt h w day num m) (hw : w.length ≤ 5) (ho : ∀ l, l ∈ ord → l < 5) :
    ∃ m', am_c (d + 2) y_M_layTried [.ref 107] m = some (none, m') ∧ fl T ord m' ∧ rn 1 T ord U mt h w day m' ∧ fqR m m' ∧ (∀ c, c ≠ 107 → c ≠ 132 → c ≠ 133 → c ≠ 134 → c ≠ 135 → c ≠ 137 → c ≠ 140 → m'.1 c = m.1 c) ∧ ∀ i, i < 59 ∨ 66 < i → m'.1 107 i = m.1 107 i := by
  obtain ⟨m', a1, a2, a3, a4⟩ := s_layT W c s hw ho (d := d)
  obtain ⟨m2, b1, b2, b3, b4, b5, b6, b7, b8, b9, b10, b11, b12⟩ := lp_layT W (d := d) 5 0 29999 m (by omega) (by omega) c s.os
  have e : m2 = m' := by
    have a5 := a1
    rw [n_M_layTried, b1] at a5
    exact (Prod.mk.inj (Option.some.inj a5)).2
  subst e
  exact ⟨m2, a1, a2, a3, a4, b3, b12⟩
theorem lq_91 {A B : Nat → Nat} {d i : Nat} {x1 x2 x3 x4 : Int32} {m : am_M} (hi : i < 25) (hA : ∀ j, j < 25 → m.1 151 j = zn (A j) ∧ m.1 152 j = zn (B j)) (hA1 : ∀ j, A j < 10) (hB1 : ∀ j, B j < 10) (r : Nat) :
    ∀ k f acc, k + r = 5 → r < f → ∃ f', r_M_restAt_91 d f x1 x2 x3 x4 (zn i) (zb acc) (zn k) m = r_M_restAt_91 d (f' + 1) x1 x2 x3 x4 (zn i) (zb (acc && sp_ir A B i r k)) (zn 5) m ∧ f ≤ f' + r + 1 := by
  induction r with
  | zero =>
    intro k f acc h1 h2
    refine ⟨f - 1, ?_, by omega⟩
    rw [Nat.sub_add_cancel (by omega), show k = 5 from by omega, sp_ir, Bool.and_true]
  | succ r ih =>
    intro k f acc h1 h2
    obtain ⟨f, rfl⟩ : ∃ g, f = g + 1 := ⟨f - 1, by omega⟩
    have g1 := hA1 i; have g2 := hB1 i; have g3 := hA1 (5 * k + i % 5); have g4 := hB1 (i / 5 * 5 + k)
    have x1' := (hA i (by omega)).1; have x2' := (hA i (by omega)).2; have x3' := (hA (5 * k + i % 5) (by omega)).1; have x4' := (hA (i / 5 * 5 + k) (by omega)).2
    cases acc with
    | false =>
      obtain ⟨f', b1, b2⟩ := ih (k + 1) f false (by omega) (by omega)
      refine ⟨f', ?_, by omega⟩
      rw [Bool.false_and] at b1 ⊢
      rw [e_M_restAt_91, br_leF (by omega) (by omega), br_zb, if_neg (by simp), zn_add, ← zb_f, b1]
    | true =>
      rw [e_M_restAt_91, br_leF (by omega) (by omega), br_zb, if_pos rfl, zn_div (by omega) (by omega), zn_rem (by omega) (by omega), zn_mul, zn_mul, zn_add, zn_add, zn_add, br_oiF (by omega) (by omega), br_oiF (by omega) (by omega), br_oiF (by omega) (by omega), br_oiF (by omega) (by omega), zn_cl (by omega), zn_cl (by omega), zn_cl (by omega), x1', x2', x3', x4', sp_ir, Bool.true_and]
      by_cases p1 : A (5 * k + i % 5) ≤ A i
      · rw [br_ltF p1 (by omega), decide_eq_true p1]
        by_cases p2 : B (i / 5 * 5 + k) ≤ B i
        · obtain ⟨f', b1, b2⟩ := ih (k + 1) f true (by omega) (by omega)
          refine ⟨f', ?_, by omega⟩
          rw [br_ltF p2 (by omega), decide_eq_true p2, ← zb_t, b1]; rfl
        · obtain ⟨f', b1, b2⟩ := ih (k + 1) f false (by omega) (by omega)
          refine ⟨f', ?_, by omega⟩
          rw [br_ltT (by omega) (by omega), decide_eq_false p2, ← zb_f, b1]; rfl
      · obtain ⟨f', b1, b2⟩ := ih (k + 1) f false (by omega) (by omega)
        refine ⟨f', ?_, by omega⟩
        rw [br_ltT (by omega) (by omega), decide_eq_false p1, ← zb_f, b1]; rfl
def sp_rr (L : List Nat) : Option Nat → Nat → Int32
  | none, n => zn (n + L.length)
  | some k, n => if k - n < L.length then zn (L.getD (k - n) 0) else zq
theorem lq_78 {A B : Nat → Nat} {d : Nat} {x1 x2 : Int32} {o : Option Nat} {m : am_M} (hA : ∀ j, j < 25 → m.1 151 j = zn (A j) ∧ m.1 152 j = zn (B j)) (hA1 : ∀ j, A j < 10) (hB1 : ∀ j, B j < 10) (ho : ∀ k, o = some k → k < 2147483648) (r : Nat) :
    ∀ i f n x6 x7, i + r = 25 → 10 * r < f → n ≤ i → (∀ k, o = some k → n ≤ k) → r_M_restAt_78 d f x1 x2 (zo o) (zn n) (zn i) x6 x7 m = some (some (.int (sp_rr (sp_rl A B r i) o n)), m) := by
  induction r with
  | zero =>
    intro i f n x6 x7 h1 h2 h3 h4
    obtain ⟨f, rfl⟩ : ∃ g, f = g + 1 := ⟨f - 1, by omega⟩
    rw [e_M_restAt_78, br_leT (by omega) (by omega)]
    cases o with
    | none => rw [zo_n, br_le, zn_i (by omega), zm_i, if_neg (by omega)]; rfl
    | some k => have := ho k rfl; rw [zo_s, br_leT (by omega) (by omega)]; rfl
  | succ r ih =>
    intro i f n x6 x7 h1 h2 h3 h4
    obtain ⟨f, rfl⟩ : ∃ g, f = g + 1 := ⟨f - 1, by omega⟩
    obtain ⟨f', b1, b2⟩ := lq_91 (d := d) (x1 := x1) (x2 := x2) (x3 := zo o) (x4 := zn n) (i := i) (by omega) hA hA1 hB1 5 0 f true (by omega) (by omega)
    rw [Bool.true_and] at b1
    rw [e_M_restAt_78, br_leF (by omega) (by omega), ← zb_t, b1, e_M_restAt_91, br_leT (by omega) (by omega), br_zb, sp_rl, zn_add]
    cases e : sp_ir A B i 5 0 with
    | false =>
      rw [if_neg (by simp), if_neg (by simp), zn_add]
      exact ih (i + 1) f' n _ _ (by omega) (by omega) (by omega) h4
    | true =>
      rw [if_pos rfl, if_pos rfl, zn_add, zn_div (by omega) (by omega), zn_rem (by omega) (by omega), zn_mul, zn_add]
      cases o with
      | none =>
        rw [zo_n, br_eqm (by omega)]
        have := ih (i + 1) f' (n + 1) (some (.int (zb true))) (some (.int (zn 5))) (by omega) (by omega) (by omega) (by intro k hk; cases hk)
        rw [zo_n] at this
        rw [this, sp_rr, sp_rr, List.length_cons, show n + 1 + (sp_rl A B r (i + 1)).length = n + ((sp_rl A B r (i + 1)).length + 1) from by omega]
      | some k =>
        have k1 := ho k rfl; have k2 := h4 k rfl
        rw [zo_s]
        by_cases g : n = k
        · subst g
          rw [br_eqT rfl, sp_rr, Nat.sub_self, if_pos (by simp), List.getD_cons_zero]
        · have := ih (i + 1) f' (n + 1) (some (.int (zb true))) (some (.int (zn 5))) (by omega) (by omega) (by omega) (by intro k' hk; cases hk; omega)
          rw [zo_s] at this
          rw [br_eqF g (by omega) (by omega), this, sp_rr, sp_rr, List.length_cons]
          obtain ⟨p, hp⟩ : ∃ p, k - n = p + 1 := ⟨k - n - 1, by omega⟩
          rw [hp, show k - (n + 1) = p from by omega, List.getD_cons_succ]
          by_cases g2 : p < (sp_rl A B r (i + 1)).length
          · rw [if_pos g2, if_pos (by omega)]
          · rw [if_neg g2, if_neg (by omega)]
theorem lq_fr1 {T G F : Td} {q : Sq} {w : List Nat} {day num d a b : Nat} {x3 : Int32} (W : tW T) (gw : gW G F) (hE : evW (gE G F)) (Q : qW T w q) (hd : day ≤ 999) (ha : a < T 0 0) (hb : b < T 0 0) (hab : a ≠ b) (r : Nat) :
    ∀ (i f : Nat) (m : am_M), i + r = 25 → r < f → tR T G F m → nR T q.1 q.2.1 q.2.2.1 q.2.2.2 w day num m → (∀ j, j < i → m.1 151 j = zn (sp_gn T (gE G F) q w day a b a j) ∧ m.1 152 j = zn (sp_gn T (gE G F) q w day a b b j)) →
    ∃ f' m', r_M_restAt_3 (d + 6) f (zn a) (zn b) x3 (zn i) m = r_M_restAt_3 (d + 6) (f' + 1) (zn a) (zn b) x3 (zn 25) m' ∧ f ≤ f' + r + 1 ∧ fqR m m' ∧ ∀ j, j < 25 → m'.1 151 j = zn (sp_gn T (gE G F) q w day a b a j) ∧ m'.1 152 j = zn (sp_gn T (gE G F) q w day a b b j) := by
  have hw5 := hw_len Q.hw; have hn5 := W.n; have hL := W.L
  have S := Q.sw W (day := day) (by omega)
  induction r with
  | zero =>
    intro i f m h1 h2 c s hg
    refine ⟨f - 1, m, ?_, by omega, fqR_refl m, fun j hj => hg j (by omega)⟩
    rw [Nat.sub_add_cancel (by omega), show i = 25 from by omega]
  | succ r ih =>
    intro i f m h1 h2 c s hg
    obtain ⟨f, rfl⟩ : ∃ g, f = g + 1 := ⟨f - 1, by omega⟩
    obtain ⟨m1, a1, a2, a3, a4, a5, a6⟩ := s_layT2 W c s (by omega) (fun l hl => by have := Q.om l hl; omega) (d := d + 4)
    have c1 := c.q a4
    have R := c1.rx a2 W gw
    let m2 : am_M := (am_w (am_w m1.1 140 a (zn (i / 5))) 140 b (zn (i % 5)), m1.2)
    have e2 : ∀ p, p ≠ 140 → m2.1 p = m1.1 p := fun p hp => by show (am_w (am_w m1.1 140 a (zn (i / 5))) 140 b (zn (i % 5))) p = _; simp (disch := omega) only [w_ne, w_at, wl_ne, wl_at, wc_ne, wc_at, upd_at, upd_ne, upl_at, upl_ne, cpy_in0, zn_cl, zn_add, zn_mul, zn_sub, zn_pm, br_tt, br_ff, br_ltT, br_ltF, br_leT, br_leF, br_eqT, br_eqF, br_eqs, br_eqm, br_eqm', br_ltm, br_mlt, br_lem, br_mle, br_oiF, br_lgge, br_lgle, br_lggt, br_lglt, br_lgeq, br_zb, br_zb1, bV_s, bI_s, bL_s, zo_n, zo_s]
    have f2 : fqR m1 m2 := ⟨fun p hp => e2 p (by omega), fun j _ => by rw [e2 132 (by omega), e2 133 (by omega), e2 137 (by omega)]; exact ⟨rfl, rfl, rfl⟩, by rw [e2 134 (by omega)], by rw [e2 135 (by omega)], fun j _ => by rw [e2 107 (by omega)], fun _ _ => rfl, rfl, rfl⟩
    have R2 : rx T (V4 T a b i) (gE G F) m2 := by
      refine ⟨?_, ?_, ?_, ?_, ?_, ?_, ?_, ?_, ?_, ?_⟩
      · rw [e2 107 (by omega)]; exact R.n
      · rw [e2 107 (by omega)]; exact R.L
      · rw [e2 113 (by omega)]; exact R.pl
      · rw [e2 114 (by omega)]; exact R.sz
      · rw [e2 111 (by omega)]; exact R.fg
      · rw [e2 107 (by omega)]; exact R.rl
      · intro j hj
        show (am_w (am_w m1.1 140 a (zn (i / 5))) 140 b (zn (i % 5))) 140 j = zn (if j = b then i % 5 else if j = a then i / 5 else T 3 j)
        by_cases q1 : j = b
        · subst q1; rw [if_pos rfl]; simp (disch := omega) only [w_ne, w_at, wl_ne, wl_at, wc_ne, wc_at, upd_at, upd_ne, upl_at, upl_ne, cpy_in0, zn_cl, zn_add, zn_mul, zn_sub, zn_pm, br_tt, br_ff, br_ltT, br_ltF, br_leT, br_leF, br_eqT, br_eqF, br_eqs, br_eqm, br_eqm', br_ltm, br_mlt, br_lem, br_mle, br_oiF, br_lgge, br_lgle, br_lggt, br_lglt, br_lgeq, br_zb, br_zb1, bV_s, bI_s, bL_s, zo_n, zo_s]
        · rw [if_neg q1]
          by_cases q2 : j = a
          · subst q2; rw [if_pos rfl]; simp (disch := omega) only [w_ne, w_at, wl_ne, wl_at, wc_ne, wc_at, upd_at, upd_ne, upl_at, upl_ne, cpy_in0, zn_cl, zn_add, zn_mul, zn_sub, zn_pm, br_tt, br_ff, br_ltT, br_ltF, br_leT, br_leF, br_eqT, br_eqF, br_eqs, br_eqm, br_eqm', br_ltm, br_mlt, br_lem, br_mle, br_oiF, br_lgge, br_lgle, br_lggt, br_lglt, br_lgeq, br_zb, br_zb1, bV_s, bI_s, bL_s, zo_n, zo_s]
          · rw [if_neg q2]; simp (disch := omega) only [w_ne, w_at, wl_ne, wl_at, wc_ne, wc_at, upd_at, upd_ne, upl_at, upl_ne, cpy_in0, zn_cl, zn_add, zn_mul, zn_sub, zn_pm, br_tt, br_ff, br_ltT, br_ltF, br_leT, br_leF, br_eqT, br_eqF, br_eqs, br_eqm, br_eqm', br_ltm, br_mlt, br_lem, br_mle, br_oiF, br_lgge, br_lgle, br_lggt, br_lglt, br_lgeq, br_zb, br_zb1, bV_s, bI_s, bL_s, zo_n, zo_s]; exact R.cm j hj
      · rw [e2 107 (by omega), e2 117 (by omega)]; exact R.hw
      · rw [e2 107 (by omega), e2 119 (by omega)]; exact R.rc
      · exact lwR_mono R.lw (fun p _ _ => e2 p (by omega))
    have s2 : rn 1 T q.1 q.2.1 q.2.2.1 q.2.2.2 w day m2 := by
      unfold rn
      rw [e2 107 (by omega), e2 132 (by omega), e2 133 (by omega), e2 134 (by omega), e2 135 (by omega), e2 136 (by omega), e2 137 (by omega), e2 138 (by omega), e2 139 (by omega)]
      exact a3
    obtain ⟨m3, b1, b2, b3⟩ := s_goOn (b := 1) (by omega) (tw4 W (by omega)) hE S R2 s2 Q.hw (d := d)
    have R3 := R2.fy b3
    have I' : hwI (T 0 0) _ _ := pass_hw (V := V4 T a b i) (E := gE G F) (U := q.2.1) (day := day) (ord := q.1) S.ms Q.hw
    have z1 := s_sizeHad (b := 1) (tw4 W (by omega)) R3 (by omega) b2.hs (fun j s' hj e => hw_h I' hj e) ha (d := d + 5)
    have R4 : rx T (V4 T a b i) (gE G F) (am_w m3.1 151 i (zn (sp_gn T (gE G F) q w day a b a i)), m3.2) := R3.mono (fun p _ _ => by simp (disch := omega) only [w_ne, w_at, wl_ne, wl_at, wc_ne, wc_at, upd_at, upd_ne, upl_at, upl_ne, cpy_in0, zn_cl, zn_add, zn_mul, zn_sub, zn_pm, br_tt, br_ff, br_ltT, br_ltF, br_leT, br_leF, br_eqT, br_eqF, br_eqs, br_eqm, br_eqm', br_ltm, br_mlt, br_lem, br_mle, br_oiF, br_lgge, br_lgle, br_lggt, br_lglt, br_lgeq, br_zb, br_zb1, bV_s, bI_s, bL_s, zo_n, zo_s]) (by simp (disch := omega) only [w_ne, w_at, wl_ne, wl_at, wc_ne, wc_at, upd_at, upd_ne, upl_at, upl_ne, cpy_in0, zn_cl, zn_add, zn_mul, zn_sub, zn_pm, br_tt, br_ff, br_ltT, br_ltF, br_leT, br_leF, br_eqT, br_eqF, br_eqs, br_eqm, br_eqm', br_ltm, br_mlt, br_lem, br_mle, br_oiF, br_lgge, br_lgle, br_lggt, br_lglt, br_lgeq, br_zb, br_zb1, bV_s, bI_s, bL_s, zo_n, zo_s]) (fun j _ => by simp (disch := omega) only [w_ne, w_at, wl_ne, wl_at, wc_ne, wc_at, upd_at, upd_ne, upl_at, upl_ne, cpy_in0, zn_cl, zn_add, zn_mul, zn_sub, zn_pm, br_tt, br_ff, br_ltT, br_ltF, br_leT, br_leF, br_eqT, br_eqF, br_eqs, br_eqm, br_eqm', br_ltm, br_mlt, br_lem, br_mle, br_oiF, br_lgge, br_lgle, br_lggt, br_lglt, br_lgeq, br_zb, br_zb1, bV_s, bI_s, bL_s, zo_n, zo_s])
    have z2 := s_sizeHad (b := 1) (tw4 W (by omega)) R4 (by omega) (h := (sp_pass T (V4 T a b i) (gE G F) q.2.1 day q.1 q.2.2.1 q.2.2.2 w).1) (fun j hj => by simp (disch := omega) only [w_ne, w_at, wl_ne, wl_at, wc_ne, wc_at, upd_at, upd_ne, upl_at, upl_ne, cpy_in0, zn_cl, zn_add, zn_mul, zn_sub, zn_pm, br_tt, br_ff, br_ltT, br_ltF, br_leT, br_leF, br_eqT, br_eqF, br_eqs, br_eqm, br_eqm', br_ltm, br_mlt, br_lem, br_mle, br_oiF, br_lgge, br_lgle, br_lggt, br_lglt, br_lgeq, br_zb, br_zb1, bV_s, bI_s, bL_s, zo_n, zo_s]; exact b2.hs j hj) (fun j s' hj e => hw_h I' hj e) hb (d := d + 5)
    let m5 : am_M := (am_w (am_w m3.1 151 i (zn (sp_gn T (gE G F) q w day a b a i))) 152 i (zn (sp_gn T (gE G F) q w day a b b i)), m3.2)
    have e5 : ∀ p, p ≠ 151 → p ≠ 152 → m5.1 p = m3.1 p := fun p h1 h2 => by show (am_w (am_w m3.1 151 i (zn (sp_gn T (gE G F) q w day a b a i))) 152 i (zn (sp_gn T (gE G F) q w day a b b i))) p = _; simp (disch := omega) only [w_ne, w_at, wl_ne, wl_at, wc_ne, wc_at, upd_at, upd_ne, upl_at, upl_ne, cpy_in0, zn_cl, zn_add, zn_mul, zn_sub, zn_pm, br_tt, br_ff, br_ltT, br_ltF, br_leT, br_leF, br_eqT, br_eqF, br_eqs, br_eqm, br_eqm', br_ltm, br_mlt, br_lem, br_mle, br_oiF, br_lgge, br_lgle, br_lggt, br_lglt, br_lgeq, br_zb, br_zb1, bV_s, bI_s, bL_s, zo_n, zo_s]
    have f5 : fqR m3 m5 := ⟨fun p hp => e5 p (by omega) (by omega), fun j _ => by rw [e5 132 (by omega) (by omega), e5 133 (by omega) (by omega), e5 137 (by omega) (by omega)]; exact ⟨rfl, rfl, rfl⟩, by rw [e5 134 (by omega) (by omega)], by rw [e5 135 (by omega) (by omega)], fun j _ => by rw [e5 107 (by omega) (by omega)], fun _ _ => rfl, rfl, rfl⟩
    have fq : fqR m m5 := fqR_tr a4 (fqR_tr f2 (fqR_tr b3.q f5))
    have e3 : ∀ p, 151 ≤ p → p ≤ 152 → m3.1 p = m.1 p := fun p _ _ => by rw [b3.2.1 p (by omega) (by omega) (by omega) (by omega) (by omega), e2 p (by omega), a5 p (by omega) (by omega) (by omega) (by omega) (by omega) (by omega) (by omega)]
    obtain ⟨f', m', d1, d2, d3, d4⟩ := ih (i + 1) f m5 (by omega) (by omega) (c.q fq) (s.q (by omega) W fq) (by
      intro j hj
      show (am_w (am_w m3.1 151 i (zn (sp_gn T (gE G F) q w day a b a i))) 152 i (zn (sp_gn T (gE G F) q w day a b b i))) 151 j = _ ∧ (am_w (am_w m3.1 151 i (zn (sp_gn T (gE G F) q w day a b a i))) 152 i (zn (sp_gn T (gE G F) q w day a b b i))) 152 j = _
      by_cases q1 : j = i
      · subst q1; simp (disch := omega) only [w_ne, w_at, wl_ne, wl_at, wc_ne, wc_at, upd_at, upd_ne, upl_at, upl_ne, cpy_in0, zn_cl, zn_add, zn_mul, zn_sub, zn_pm, br_tt, br_ff, br_ltT, br_ltF, br_leT, br_leF, br_eqT, br_eqF, br_eqs, br_eqm, br_eqm', br_ltm, br_mlt, br_lem, br_mle, br_oiF, br_lgge, br_lgle, br_lggt, br_lglt, br_lgeq, br_zb, br_zb1, bV_s, bI_s, bL_s, zo_n, zo_s, and_self]
      · have := hg j (by omega)
        simp (disch := omega) only [w_ne, w_at, wl_ne, wl_at, wc_ne, wc_at, upd_at, upd_ne, upl_at, upl_ne, cpy_in0, zn_cl, zn_add, zn_mul, zn_sub, zn_pm, br_tt, br_ff, br_ltT, br_ltF, br_leT, br_leF, br_eqT, br_eqF, br_eqs, br_eqm, br_eqm', br_ltm, br_mlt, br_lem, br_mle, br_oiF, br_lgge, br_lgle, br_lggt, br_lglt, br_lgeq, br_zb, br_zb1, bV_s, bI_s, bL_s, zo_n, zo_s, e3, this.1, this.2, and_self])
    refine ⟨f', m', ?_, by omega, fqR_tr fq d3, d4⟩
    rw [e_M_restAt_3, ← d1]
    have b1' : am_c (d + 6) y_M_goOn [.ref 107, .int (zn 1), .int (zn 0)] (am_w (am_w m1.1 140 a (zn (i / 5))) 140 b (zn (i % 5)), m1.2) = some (none, m3) := b1
    have z1' : am_c (d + 6) y_M_sizeHad [.ref 107, .int (zn 1), .int (zn a)] m3 = some (some (.int (zn (sp_gn T (gE G F) q w day a b a i))), m3) := z1
    have z2' : am_c (d + 6) y_M_sizeHad [.ref 107, .int (zn 1), .int (zn b)] (am_w m3.1 151 i (zn (sp_gn T (gE G F) q w day a b a i)), m3.2) = some (some (.int (zn (sp_gn T (gE G F) q w day a b b i))), (am_w m3.1 151 i (zn (sp_gn T (gE G F) q w day a b a i)), m3.2)) := z2
    simp (disch := omega) only [w_ne, w_at, wl_ne, wl_at, wc_ne, wc_at, upd_at, upd_ne, upl_at, upl_ne, cpy_in0, zn_cl, zn_add, zn_mul, zn_sub, zn_pm, br_tt, br_ff, br_ltT, br_ltF, br_leT, br_leF, br_eqT, br_eqF, br_eqs, br_eqm, br_eqm', br_ltm, br_mlt, br_lem, br_mle, br_oiF, br_lgge, br_lgle, br_lggt, br_lglt, br_lgeq, br_zb, br_zb1, bV_s, bI_s, bL_s, zo_n, zo_s, zn_div, zn_rem, a1, b1', z1', z2']
    rfl
theorem s_restAt {T G F : Td} {q : Sq} {w : List Nat} {day num a b : Nat} {o : Option Nat} {m : am_M} (c : Core T G F q w day num m) (ha : a < T 0 0) (hb : b < T 0 0) (hab : a ≠ b) (ho : ∀ k, o = some k → k < 2147483648) :
    ∃ m', am_c 7 y_M_restAt [.ref 107, .int (zn a), .int (zn b), .int (zo o)] m = some (some (.int (sp_rr (sp_rl (sp_gn T (gE G F) q w day a b a) (sp_gn T (gE G F) q w day a b b) 25 0) o 0)), m') ∧ fqR m m' := by
  obtain ⟨f', m1, a1, a2, a3, a4⟩ := lq_fr1 (d := 0) (x3 := zo o) c.tw c.gw (gE_evW c.gw c.gf) c.qw c.db ha hb hab 25 0 29999 m (by omega) (by omega) c.tr c.nr (fun j hj => by omega)
  have d1 := lq_78 (d := 6) (x1 := zn a) (x2 := zn b) (o := o) a4 (fun j => gn_lt c.tw c.qw ha) (fun j => gn_lt c.tw c.qw hb) ho 25 0 f' 0 none none (by omega) (by omega) (by omega) (fun k _ => by omega)
  exact ⟨m1, by rw [n_M_restAt, a1, e_M_restAt_3, br_leT (by omega) (by omega), d1], a3⟩
theorem k_rests (x y : Int32) : ask y_C_rests y_M_rests [.int x, .int y] := by
  refine ask_of fun T G F q w day num m c r => ?_
  have i1 := s_are2 c.tc c.tw (d := 5) (x := x) (y := y)
  cases e : is2 T x y with
  | false =>
    have c2 := c.qR (fqR_th m (zn 0))
    refine ⟨some (.int zm), m, ?_, fqC_refl m, fun c1 r1 => ⟨_, ?_, fqR_th m (zn 0)⟩⟩
    · rw [n_C_rests, i1, e]; rfl
    · rw [n_M_rests, s_isThingR c2.tr c.tw, bI_s, br_zb, s_isThingR c2.tr c.tw, bI_s, br_zb, br_eq]
      unfold is2 at e
      cases ex : isN (T 0 0) x with
      | false => rfl
      | true =>
        cases ey : isN (T 0 0) y with
        | false => rfl
        | true =>
          rw [ex, ey] at e
          have hxy : x = y := by simpa using e
          rw [if_pos rfl, if_pos rfl, if_pos hxy]
  | true =>
    obtain ⟨a, b, ha, hb, hab, rfl, rfl⟩ := is2_t e
    have hn5 := c.tw.n
    have g1 := isN_z ha (by omega)
    have g2 := isN_z hb (by omega)
    obtain ⟨m1, a1, a2, a3⟩ := s_findRests c ha hb hab
    refine ⟨_, m1, by rw [n_C_rests, i1, e, bI_s, br_zb, if_pos rfl, a1, bI_s], a2, fun c1 r1 => ?_⟩
    have c2 := c1.qR (fqR_th m1 (zn 0))
    obtain ⟨m2, b1, b2⟩ := s_restAt (o := none) c2 ha hb hab (by intro k hk; cases hk)
    rw [sp_rr, Nat.zero_add, zo_n] at b1
    refine ⟨m2, ?_, fqR_tr (fqR_th m1 (zn 0)) b2⟩
    rw [n_M_rests, s_isThingR c2.tr c.tw, g1, bI_s, br_zb, if_pos rfl, s_isThingR c2.tr c.tw, g2, bI_s, br_zb, if_pos rfl, br_eqF hab (by omega) (by omega), b1, bI_s]
theorem k_rest (x y z : Int32) : ask y_C_rest y_M_rest [.int x, .int y, .int z] := by
  refine ask_of fun T G F q w day num m c r => ?_
  have i1 := s_are2 c.tc c.tw (d := 5) (x := x) (y := y)
  cases e : is2 T x y with
  | false =>
    have c2 := c.qR (fqR_th m (zn 0))
    refine ⟨some (.int zm), m, ?_, fqC_refl m, fun c1 r1 => ⟨_, ?_, fqR_th m (zn 0)⟩⟩
    · rw [n_C_rest, i1, e]; rfl
    · rw [n_M_rest, s_isThingR c2.tr c.tw, bI_s, br_zb, s_isThingR c2.tr c.tw, bI_s, br_zb, br_eq]
      unfold is2 at e
      cases ex : isN (T 0 0) x with
      | false => rfl
      | true =>
        cases ey : isN (T 0 0) y with
        | false => rfl
        | true =>
          rw [ex, ey] at e
          have hxy : x = y := by simpa using e
          rw [if_pos rfl, if_pos rfl, if_pos hxy]
  | true =>
    obtain ⟨a, b, ha, hb, hab, rfl, rfl⟩ := is2_t e
    have hn5 := c.tw.n
    have g1 := isN_z ha (by omega)
    have g2 := isN_z hb (by omega)
    rcases i32_cases z with ⟨k, hk, rfl⟩ | hz
    · obtain ⟨m1, a1, a2, a3⟩ := s_findRests c ha hb hab
      have hl := rl_len (A := sp_gn T (gE G F) q w day a b a) (B := sp_gn T (gE G F) q w day a b b) 25 0
      refine ⟨some (.int (sp_rr (sp_rl (sp_gn T (gE G F) q w day a b a) (sp_gn T (gE G F) q w day a b b) 25 0) (some k) 0)), m1, ?_, a2, fun c1 r1 => ?_⟩
      · rw [n_C_rest, i1, e, bI_s, br_zb, if_pos rfl, br_leT (by omega) (by omega), a1, bI_s, sp_rr, Nat.sub_zero]
        by_cases g : k < (sp_rl (sp_gn T (gE G F) q w day a b a) (sp_gn T (gE G F) q w day a b b) 25 0).length
        · rw [br_leF g (by omega), n_Finder_restAt, br_ltF (by omega) (by omega), br_leF (by omega) (by omega), br_oiF (by omega) (by omega), bI_s, zn_cl (by omega), a3 k g, if_pos g]
        · rw [br_leT (by omega) (by omega), if_neg g]
      · have c2 := c1.qR (fqR_th m1 (zn 0))
        obtain ⟨m2, b1, b2⟩ := s_restAt (o := some k) c2 ha hb hab (by intro k' hk'; cases hk'; exact hk)
        rw [zo_s] at b1
        refine ⟨m2, ?_, fqR_tr (fqR_th m1 (zn 0)) b2⟩
        rw [n_M_rest, s_isThingR c2.tr c.tw, g1, bI_s, br_zb, if_pos rfl, s_isThingR c2.tr c.tw, g2, bI_s, br_zb, if_pos rfl, br_eqF hab (by omega) (by omega), br_ltF (by omega) (by omega), b1, bI_s]
    · have c2 := c.qR (fqR_th m (zn 0))
      refine ⟨some (.int zm), m, ?_, fqC_refl m, fun c1 r1 => ⟨_, ?_, fqR_th m (zn 0)⟩⟩
      · rw [n_C_rest, i1, e, bI_s, br_zb, if_pos rfl, br_le, zn_i (by omega), if_neg (by omega)]
      · rw [n_M_rest, s_isThingR c2.tr c.tw, g1, bI_s, br_zb, if_pos rfl, s_isThingR c2.tr c.tw, g2, bI_s, br_zb, if_pos rfl, br_eqF hab (by omega) (by omega), br_lt, zn_i (by omega), if_pos (by omega)]
