/-! the reference tries orders -/
theorem lq_103 {d : Nat} {x1 x2 x3 x4 : Int32} (r : Nat) : ∀ (k f : Nat) (m : am_M), k + r = 5 → r < f →
    ∃ f' m', r_M_layOrder_103 d f x1 x2 x3 x4 (zn k) m = r_M_layOrder_103 d (f' + 1) x1 x2 x3 x4 (zn 5) m' ∧ f ≤ f' + r + 1 ∧ m'.2 = m.2 ∧ (∀ c, c ≠ 142 → m'.1 c = m.1 c) ∧ (∀ q, k ≤ q → q < 5 → m'.1 142 q = m.1 137 (5 + q)) ∧ ∀ q, q < k → m'.1 142 q = m.1 142 q := by
  induction r with
  | zero =>
    intro k f m h1 h2
    refine ⟨f - 1, m, ?_, by omega, rfl, fun _ _ => rfl, fun q _ _ => by omega, fun _ _ => rfl⟩
    rw [Nat.sub_add_cancel (by omega), show k = 5 from by omega]
  | succ r ih =>
    intro k f m h1 h2
    obtain ⟨f, rfl⟩ : ∃ g, f = g + 1 := ⟨f - 1, by omega⟩
    obtain ⟨f', m', b1, b0, b2, b3, b4, b5⟩ := ih (k + 1) f (am_w m.1 142 k (m.1 137 (5 + k)), m.2) (by omega) (by omega)
    refine ⟨f', m', ?_, by omega, b2, fun c hc => by rw [b3 c hc]; simp (disch := omega) only [w_ne, w_at, wl_ne, wl_at, wc_ne, wc_at, upd_at, upd_ne, upl_at, upl_ne, cpy_in0, zn_cl, zn_add, zn_mul, zn_sub, zn_pm, br_tt, br_ff, br_ltT, br_ltF, br_leT, br_leF, br_eqT, br_eqF, br_eqs, br_eqm, br_eqm', br_ltm, br_mlt, br_lem, br_mle, br_oiF, br_lgge, br_lgle, br_lggt, br_lglt, br_lgeq, br_zb, br_zb1, bV_s, bI_s, bL_s, zo_n, zo_s], fun q h3 h4 => ?_, fun q hq => by rw [b5 q (by omega)]; simp (disch := omega) only [w_ne, w_at, wl_ne, wl_at, wc_ne, wc_at, upd_at, upd_ne, upl_at, upl_ne, cpy_in0, zn_cl, zn_add, zn_mul, zn_sub, zn_pm, br_tt, br_ff, br_ltT, br_ltF, br_leT, br_leF, br_eqT, br_eqF, br_eqs, br_eqm, br_eqm', br_ltm, br_mlt, br_lem, br_mle, br_oiF, br_lgge, br_lgle, br_lggt, br_lglt, br_lgeq, br_zb, br_zb1, bV_s, bI_s, bL_s, zo_n, zo_s]⟩
    · rw [e_M_layOrder_103]
      simp (disch := omega) only [w_ne, w_at, wl_ne, wl_at, wc_ne, wc_at, upd_at, upd_ne, upl_at, upl_ne, cpy_in0, zn_cl, zn_add, zn_mul, zn_sub, zn_pm, br_tt, br_ff, br_ltT, br_ltF, br_leT, br_leF, br_eqT, br_eqF, br_eqs, br_eqm, br_eqm', br_ltm, br_mlt, br_lem, br_mle, br_oiF, br_lgge, br_lgle, br_lggt, br_lglt, br_lgeq, br_zb, br_zb1, bV_s, bI_s, bL_s, zo_n, zo_s]
      exact b1
    · by_cases e : q = k
      · subst e; rw [b5 q (by omega)]; simp (disch := omega) only [w_ne, w_at, wl_ne, wl_at, wc_ne, wc_at, upd_at, upd_ne, upl_at, upl_ne, cpy_in0, zn_cl, zn_add, zn_mul, zn_sub, zn_pm, br_tt, br_ff, br_ltT, br_ltF, br_leT, br_leF, br_eqT, br_eqF, br_eqs, br_eqm, br_eqm', br_ltm, br_mlt, br_lem, br_mle, br_oiF, br_lgge, br_lgle, br_lggt, br_lglt, br_lgeq, br_zb, br_zb1, bV_s, bI_s, bL_s, zo_n, zo_s]
      · rw [b4 q (by omega) h4]; simp (disch := omega) only [w_ne, w_at, wl_ne, wl_at, wc_ne, wc_at, upd_at, upd_ne, upl_at, upl_ne, cpy_in0, zn_cl, zn_add, zn_mul, zn_sub, zn_pm, br_tt, br_ff, br_ltT, br_ltF, br_leT, br_leF, br_eqT, br_eqF, br_eqs, br_eqm, br_eqm', br_ltm, br_mlt, br_lem, br_mle, br_oiF, br_lgge, br_lgle, br_lggt, br_lglt, br_lgeq, br_zb, br_zb1, bV_s, bI_s, bL_s, zo_n, zo_s]
/-- one order tried by the reference -/
theorem s_oneR {T G F : Td} {q : Sq} {w : List Nat} {day num d c : Nat} {m : am_M} (W : tW T) (gw : gW G F) (hE : evW (gE G F)) (Q : qW T w q) (hd : day ≤ 999) (tr : tR T G F m) (s : nR T q.1 q.2.1 q.2.2.1 q.2.2.2 w day num m) (hc : c < 5 ^ T 0 1) :
    ∃ m1 m2, am_c (d + 6) y_M_layTried [.ref 107] m = some (none, m1) ∧ am_c (d + 6) y_M_isOrder [.ref 107, .int (zn c)] m1 = some (some (.int (zb (isOr (T 0 1) (dgt (T 0 1) c) (T 0 1) 0))), m2) ∧ fqR m m2 ∧ m2.1 142 = m.1 142 ∧ m2.1 107 70 = m.1 107 70 ∧
      (isOr (T 0 1) (dgt (T 0 1) c) (T 0 1) 0 = true → ∃ m3, am_c (d + 6) y_M_goOn [.ref 107, .int (zn 1), .int (zn 0)] m2 = some (none, m3) ∧ fqR m m3 ∧ m3.1 142 = m.1 142 ∧ m3.1 107 70 = m.1 107 70 ∧ (∀ i, i < T 0 0 → m3.1 132 (5 + i) = zo ((od T G F q w day (dig (T 0 1) c)).1 i)) ∧ ∀ k, k < T 0 1 → m3.1 137 (5 + k) = zn ((dig (T 0 1) c).getD k 0)) := by
  have hw5 := hw_len Q.hw; have hn5 := W.n; have hL := W.L
  have hp := pow5_le (T 0 1) (by omega)
  obtain ⟨m1, a1, a2, a3, a4, a5, a6⟩ := s_layT2 W tr s (by omega) (fun l hl => by have := Q.om l hl; omega) (d := d + 4)
  have c1 := tr.q a4
  obtain ⟨m2, b1, b2, b3, b4, b5⟩ := s_isOrder (L := T 0 1) (c := c) (d := d + 4) (m := m1) hL (by omega) c1.L
  have f2 : fqR m1 m2 := ⟨fun p hp => b3 p (by omega), fun i hi => by rw [b3 132 (by omega), b3 133 (by omega), b4 i hi]; exact ⟨rfl, rfl, rfl⟩, by rw [b3 134 (by omega)], by rw [b3 135 (by omega)], fun i _ => by rw [b3 107 (by omega)], fun p _ => by rw [b2], by rw [b2], by rw [b2]⟩
  have e142 : m2.1 142 = m.1 142 := by rw [b3 142 (by omega), a5 142 (by omega) (by omega) (by omega) (by omega) (by omega) (by omega) (by omega)]
  have e70 : m2.1 107 70 = m.1 107 70 := by rw [b3 107 (by omega), a6 70 (by omega)]
  refine ⟨m1, m2, a1, b1, fqR_tr a4 f2, e142, e70, fun ho => ?_⟩
  have R := (c1.rx a2 W gw).mono (m' := m2) (fun p _ _ => b3 p (by omega)) (b3 140 (by omega)) (fun i _ => by rw [b3 107 (by omega)])
  have hmem : ∀ l, l ∈ dig (T 0 1) c → l < T 0 1 := by
    have key : ∀ (r k : Nat), isOr (T 0 1) (dgt (T 0 1) c) r k = true → ∀ x, k ≤ x → x < k + r → dgt (T 0 1) c x < T 0 1 := by
      intro r
      induction r with
      | zero => intro k _ x h1 h2; omega
      | succ r ih =>
        intro k h x h1 h2
        rw [isOr, Bool.and_eq_true, Bool.and_eq_true, decide_eq_true_eq] at h
        rcases Nat.eq_or_lt_of_le h1 with e | e
        · rw [← e]; exact h.1.1
        · exact ih (k + 1) h.2 x (by omega) (by omega)
    intro l hl
    obtain ⟨k, h1, h2⟩ := List.mem_map.mp (show l ∈ (List.range (T 0 1)).map _ from hl)
    rw [← h2]
    exact key (T 0 1) 0 ho k (by omega) (by have := List.mem_range.mp h1; omega)
  have s2 : rn 1 T (dig (T 0 1) c) q.2.1 q.2.2.1 q.2.2.2 w day m2 := by
    refine ⟨?_, ?_, ?_, ?_, ⟨dig (T 0 1) c, none, dig_len, ?_, by rw [b3 107 (by omega)]; exact a2.lo, (by intro a h; cases h), fun l hl => by have := hmem l hl; omega, ?_⟩, ?_, ?_, ?_⟩
    · rw [b3 132 (by omega)]; exact a3.hs
    · rw [b3 134 (by omega)]; exact a3.wl
    · rw [b3 133 (by omega)]; exact a3.ws
    · rw [b3 135 (by omega)]; exact a3.dy
    · intro i hi; rw [Nat.mul_one]; exact b5 i hi
    · rw [List.filter_eq_self.mpr]; intro a _; simp
    · rw [b3 107 (by omega), b3 136 (by omega)]; exact a3.hu
    · rw [b3 107 (by omega), b3 138 (by omega), b3 139 (by omega)]; exact a3.ms
    · rw [b3 132 (by omega)]; exact a3.h5
  have S : sw T (dig (T 0 1) c) q.2.1 q.2.2.1 day := ⟨by rw [dig_len]; exact hL, hmem, Q.hu, Q.ml, fun x hx => by have := Q.ms x hx; omega, by omega⟩
  obtain ⟨m3, d1, d2, d3⟩ := s_goOn (b := 1) (by omega) W.tw hE S R s2 Q.hw (d := d)
  refine ⟨m3, d1, fqR_tr a4 (fqR_tr f2 d3.q), by rw [d3.2.1 142 (by omega) (by omega) (by omega) (by omega) (by omega), e142], by rw [d3.2.2.1 70 (by omega), e70], fun i hi => d2.hs i hi, fun k hk => by rw [d3.2.1 137 (by omega) (by omega) (by omega) (by omega) (by omega)]; exact b5 k hk⟩
theorem fqR_70 {m : am_M} {x : Int32} : fqR m (am_w m.1 107 70 x, m.2) := by
  refine ⟨fun c hc => ?_, fun i hi => ⟨?_, ?_, ?_⟩, ?_, ?_, fun i hi => ?_, fun _ _ => rfl, rfl, rfl⟩ <;> simp (disch := omega) only [w_ne, w_at, wl_ne, wl_at, wc_ne, wc_at, upd_at, upd_ne, upl_at, upl_ne, cpy_in0, zn_cl, zn_add, zn_mul, zn_sub, zn_pm, br_tt, br_ff, br_ltT, br_ltF, br_leT, br_leF, br_eqT, br_eqF, br_eqs, br_eqm, br_eqm', br_ltm, br_mlt, br_lem, br_mle, br_oiF, br_lgge, br_lgle, br_lggt, br_lglt, br_lgeq, br_zb, br_zb1, bV_s, bI_s, bL_s, zo_n, zo_s]
theorem lq_best {T G F : Td} {q : Sq} {w : List Nat} {day num d : Nat} {x2 : Int32} (W : tW T) (gw : gW G F) (hE : evW (gE G F)) (Q : qW T w q) (hd : day ≤ 999) (r : Nat) :
    ∀ (c f : Nat) (a : Option (Nat × List Nat)) (x4 x5 : Option Value) (m : am_M), c + r = 5 ^ T 0 1 → 7 * r < f → tR T G F m → nR T q.1 q.2.1 q.2.2.1 q.2.2.2 w day num m → m.1 107 70 = zf a → (∀ v x, a = some (v, x) → v ≤ 5 ∧ ∀ k, k < T 0 1 → m.1 142 k = zn (x.getD k 0)) →
    ∃ m', r_M_layOrder_7 (d + 6) f zm x2 (zn c) x4 x5 m = some (some (.int (zn 1)), m') ∧ fqR m m' ∧ m'.1 107 70 = zf (bst (fun p => sp_own (T 0 0) (od T G F q w day p).1) (ordF (T 0 1) r c) a) ∧ ∀ v x, bst (fun p => sp_own (T 0 0) (od T G F q w day p).1) (ordF (T 0 1) r c) a = some (v, x) → v ≤ 5 ∧ ∀ k, k < T 0 1 → m'.1 142 k = zn (x.getD k 0) := by
  have hw5 := hw_len Q.hw; have hn5 := W.n; have hL := W.L
  have hp := pow5_le (T 0 1) (by omega)
  induction r with
  | zero =>
    intro c f a x4 x5 m h1 h2 tr s h70 h7
    obtain ⟨f, rfl⟩ : ∃ g, f = g + 1 := ⟨f - 1, by omega⟩
    refine ⟨m, ?_, fqR_refl m, h70, h7⟩
    rw [e_M_layOrder_7, tr.L, s_pow (by omega), bI_s, br_leT (by omega) (by omega), br_le, zm_i, zn_i (by omega), if_neg (by omega)]
  | succ r ih =>
    intro c f a x4 x5 m h1 h2 tr s h70 h7
    obtain ⟨f, rfl⟩ : ∃ g, f = g + 1 := ⟨f - 1, by omega⟩
    obtain ⟨m1, m2, a1, a2, a3, a4, a5, a6⟩ := s_oneR (d := d) (c := c) W gw hE Q hd tr s (by omega)
    rw [e_M_layOrder_7, tr.L, s_pow (by omega), bI_s, br_leF (by omega) (by omega), a1, bV_s, a2, bI_s, br_zb, ordF, zn_add]
    cases e : isOr (T 0 1) (dgt (T 0 1) c) (T 0 1) 0 with
    | false =>
      obtain ⟨m', d1, d2, d3, d4⟩ := ih (c + 1) f a x4 x5 m2 (by omega) (by omega) (tr.q a3) (s.q (by omega) W a3) (by rw [a5]; exact h70) (by rw [a4]; exact h7)
      rw [if_neg (by simp), if_neg (by simp)]
      exact ⟨m', d1, fqR_tr a3 d2, d3, d4⟩
    | true =>
      obtain ⟨m3, b1, b2, b3, b4, b5, b6⟩ := a6 e
      have I' : hwI (T 0 0) (od T G F q w day (dig (T 0 1) c)).1 (od T G F q w day (dig (T 0 1) c)).2 := pass_hw (fun x hx => by have := Q.ms x hx; omega) Q.hw
      have tr3 := tr.q b2
      have s3 := s.q (by omega) W b2
      have o1 := s_ownIn (b := 1) (d := d + 5) (by omega) hn5 tr3.n b5 I'
      have ole : sp_own (T 0 0) (od T G F q w day (dig (T 0 1) c)).1 ≤ T 0 0 := own_le
      rw [if_pos rfl, if_pos rfl, b1, bV_s, br_le, zm_i, zn_i (by omega), if_neg (by omega), o1, bI_s, b4, h70, bst_c, o1, bI_s]
      have keep : ∀ (g : Nat), 7 * r + 6 < g → ∃ m', r_M_layOrder_103 (d + 6) g zm x2 (zn c) (zn 1) (zn 0) (am_w m3.1 107 70 (zn (sp_own (T 0 0) (od T G F q w day (dig (T 0 1) c)).1)), m3.2) = some (some (.int (zn 1)), m') ∧ fqR m m' ∧ m'.1 107 70 = zf (bst (fun p => sp_own (T 0 0) (od T G F q w day p).1) (ordF (T 0 1) r (c + 1)) (some (sp_own (T 0 0) (od T G F q w day (dig (T 0 1) c)).1, dig (T 0 1) c))) ∧ ∀ v x, bst (fun p => sp_own (T 0 0) (od T G F q w day p).1) (ordF (T 0 1) r (c + 1)) (some (sp_own (T 0 0) (od T G F q w day (dig (T 0 1) c)).1, dig (T 0 1) c)) = some (v, x) → v ≤ 5 ∧ ∀ k, k < T 0 1 → m'.1 142 k = zn (x.getD k 0) := by
        intro g hg
        obtain ⟨f4, m4, g1, g0, g2, g3, g4, g5⟩ := lq_103 (d := d + 6) (x1 := zm) (x2 := x2) (x3 := zn c) (x4 := zn 1) 5 0 g (am_w m3.1 107 70 (zn (sp_own (T 0 0) (od T G F q w day (dig (T 0 1) c)).1)), m3.2) (by omega) (by omega)
        have fw := fqR_70 (m := m3) (x := zn (sp_own (T 0 0) (od T G F q w day (dig (T 0 1) c)).1))
        have f34 : fqR m3 m4 := fqR_tr fw ⟨fun p hp => g3 p (by omega), fun i _ => by rw [g3 132 (by omega), g3 133 (by omega), g3 137 (by omega)]; exact ⟨rfl, rfl, rfl⟩, by rw [g3 134 (by omega)], by rw [g3 135 (by omega)], fun i _ => by rw [g3 107 (by omega)], fun p _ => by rw [g2], by rw [g2], by rw [g2]⟩
        have f4' := fqR_tr b2 f34
        have e70 : m4.1 107 70 = zn (sp_own (T 0 0) (od T G F q w day (dig (T 0 1) c)).1) := by rw [g3 107 (by omega)]; simp (disch := omega) only [w_ne, w_at, wl_ne, wl_at, wc_ne, wc_at, upd_at, upd_ne, upl_at, upl_ne, cpy_in0, zn_cl, zn_add, zn_mul, zn_sub, zn_pm, br_tt, br_ff, br_ltT, br_ltF, br_leT, br_leF, br_eqT, br_eqF, br_eqs, br_eqm, br_eqm', br_ltm, br_mlt, br_lem, br_mle, br_oiF, br_lgge, br_lgle, br_lggt, br_lglt, br_lgeq, br_zb, br_zb1, bV_s, bI_s, bL_s, zo_n, zo_s]
        obtain ⟨m', d1, d2, d3, d4⟩ := ih (c + 1) f4 (some (sp_own (T 0 0) (od T G F q w day (dig (T 0 1) c)).1, dig (T 0 1) c)) (some (.int (zn 1))) (some (.int (zn 5))) m4 (by omega) (by omega) (tr.q f4') (s.q (by omega) W f4') e70 (fun v x e => by
          cases e
          refine ⟨Nat.le_trans ole hn5, fun k hk => ?_⟩
          rw [g4 k (by omega) (by omega)]; simp (disch := omega) only [w_ne, w_at, wl_ne, wl_at, wc_ne, wc_at, upd_at, upd_ne, upl_at, upl_ne, cpy_in0, zn_cl, zn_add, zn_mul, zn_sub, zn_pm, br_tt, br_ff, br_ltT, br_ltF, br_leT, br_leF, br_eqT, br_eqF, br_eqs, br_eqm, br_eqm', br_ltm, br_mlt, br_lem, br_mle, br_oiF, br_lgge, br_lgle, br_lggt, br_lglt, br_lgeq, br_zb, br_zb1, bV_s, bI_s, bL_s, zo_n, zo_s]; exact b6 k hk)
        refine ⟨m', ?_, fqR_tr f4' d2, d3, d4⟩
        rw [g1, e_M_layOrder_103, br_leT (by omega) (by omega), br_lt, zm_i, zn_i (by omega), if_pos (by omega), zn_add]
        exact d1
      cases a with
      | none =>
        rw [zf, br_le, zm_i, zn_i (by omega), if_neg (by omega)]
        exact keep f (by omega)
      | some vx =>
        obtain ⟨v, x⟩ := vx
        have hv := h7 v x rfl
        show ∃ m', am_b (am_le (zn (sp_own (T 0 0) (od T G F q w day (dig (T 0 1) c)).1)) (zn v)) _ _ = some (some (Value.int (zn 1)), m') ∧ fqR m m' ∧ m'.1 107 70 = zf (bst _ (ordF (T 0 1) r (c + 1)) (if v < sp_own (T 0 0) (od T G F q w day (dig (T 0 1) c)).1 then some (sp_own (T 0 0) (od T G F q w day (dig (T 0 1) c)).1, dig (T 0 1) c) else some (v, x))) ∧ ∀ v' x', bst _ (ordF (T 0 1) r (c + 1)) (if v < sp_own (T 0 0) (od T G F q w day (dig (T 0 1) c)).1 then some (sp_own (T 0 0) (od T G F q w day (dig (T 0 1) c)).1, dig (T 0 1) c) else some (v, x)) = some (v', x') → v' ≤ 5 ∧ ∀ k, k < T 0 1 → m'.1 142 k = zn (x'.getD k 0)
        by_cases g : v < sp_own (T 0 0) (od T G F q w day (dig (T 0 1) c)).1
        · rw [if_pos g, br_leF g (by omega)]
          exact keep f (by omega)
        · obtain ⟨m', d1, d2, d3, d4⟩ := ih (c + 1) f (some (v, x)) (some (.int (zn 0))) x5 m3 (by omega) (by omega) tr3 s3 (by rw [b4]; exact h70) (by rw [b3]; exact h7)
          rw [if_neg g, br_leT (by omega) (by omega)]
          exact ⟨m', d1, fqR_tr b2 d2, d3, d4⟩
theorem k_best (x : Int32) : ask y_C_best y_M_best [.int x] := by
  refine ask_of fun T G F q w day num m c r => ?_
  have hE := gE_evW c.gw c.gf
  have hL := c.tw.L; have hn5 := c.tw.n
  cases e : isR (0 : Nat) (5 : Nat) x with
  | false =>
    refine ⟨some (.int zm), m, ?_, fqC_refl m, fun c1 r1 => ⟨_, ?_, fqR_th m (zn 0)⟩⟩
    · rw [n_C_best, isR_le (by omega) (by omega), e, if_neg (by simp)]
    · rw [n_M_best, s_isInN (by omega) (by omega), e]; rfl
  | true =>
    obtain ⟨k, _, k2, rfl⟩ := isR_t e
    obtain ⟨ok1, ok2, ok3, ok4⟩ := ords_ok (T 0 1) (by omega)
    obtain ⟨t, ht⟩ : ∃ t, ords (T 0 1) = List.range (T 0 1) :: t := by
      cases h : ords (T 0 1) with
      | nil => rw [h] at ok2; cases ok2
      | cons p t => rw [h] at ok2; cases ok2; exact ⟨t, rfl⟩
    have hx : ∀ x, x ∈ ords (T 0 1) → x.length = T 0 1 ∧ ∀ l, l ∈ x → l < T 0 1 := by
      intro x hx
      have := List.all_eq_true.mp ok4 x hx
      rw [Bool.and_eq_true, decide_eq_true_eq] at this
      exact ⟨this.1, fun l hl => of_decide_eq_true (List.all_eq_true.mp this.2 l hl)⟩
    rw [ht] at ok1 ok3 hx
    rw [List.length_cons] at ok3
    obtain ⟨m1, a1, a2, a3, a4, a5⟩ := s_prepare c (d := 1)
    have c1 := c.qC a5
    obtain ⟨m2, b1, b2, b3⟩ := lp_best (d := 1) c.tw c.qw c.db t (List.range (T 0 1)) 0 29999 none none m1 ok1 hx (by omega) (by omega) ⟨c1.tc.cx c.gw, a2, a3⟩ (fun k hk => by rw [a4 k (by omega), range_getD hk]) (fun v x e => by cases e)
    have fq2 := fqC_tr a5 b2.q
    have c2 := c.qC fq2
    obtain ⟨v, p, hb⟩ : ∃ v p, bst (fun p => sp_own (T 0 0) (od T G F q w day p).1) (List.range (T 0 1) :: t) none = some (v, p) := by
      rw [bst_c]; exact bst_some t _ ⟨_, _, rfl⟩
    have hb3 := b3 v p hb
    rw [hb] at b1
    have b1' : am_c 7 y_Finder_findBestOrder [.ref 25, .ref 71] m = some (some (.int (zn v)), m2) := by
      rw [n_Finder_findBestOrder (Or.inr (Or.inr (Or.inl rfl))), a1, bV_s]; exact b1
    refine ⟨some (.int (if k = 5 then zn v else if k < T 0 1 then zn (p.getD k 0) else zq)), m2, ?_, fq2, fun c3 r3 => ?_⟩
    · rw [n_C_best, isR_le (by omega) (by omega), e, if_pos rfl, b1', bI_s]
      by_cases g : k = 5
      · rw [br_eqT g, if_pos g]
      · rw [br_eqF g (by omega) (by omega), if_neg g, n_Finder_lampFound, br_ltF (by omega) (by omega), c2.tc.L]
        by_cases g2 : k < T 0 1
        · rw [br_leF g2 (by omega), br_oiF (by omega) (by omega), bI_s, zn_cl (by omega), hb3.2 k g2, if_pos g2]
        · rw [br_leT (by omega) (by omega), if_neg g2, bI_s]
    · have c4 := c3.qR (fqR_th m2 (zn 0))
      have f70 := fqR_70 (m := (am_w m2.1 107 2 (zn 0), m2.2)) (x := zm)
      have c5 := c4.qR f70
      have hp := pow5_le (T 0 1) (by omega)
      obtain ⟨m5, d1, d2, d3, d4⟩ := lq_best (d := 0) (x2 := zn 0) c.tw c.gw hE c.qw c.db (5 ^ T 0 1) 0 29999 none none none _ (by omega) (by omega) c5.tr c5.nr (by simp (disch := omega) only [w_ne, w_at, wl_ne, wl_at, wc_ne, wc_at, upd_at, upd_ne, upl_at, upl_ne, cpy_in0, zn_cl, zn_add, zn_mul, zn_sub, zn_pm, br_tt, br_ff, br_ltT, br_ltF, br_leT, br_leF, br_eqT, br_eqF, br_eqs, br_eqm, br_eqm', br_ltm, br_mlt, br_lem, br_mle, br_oiF, br_lgge, br_lgle, br_lggt, br_lglt, br_lgeq, br_zb, br_zb1, bV_s, bI_s, bL_s, zo_n, zo_s]; rfl) (fun v x e => by cases e)
      have hh : ordF (T 0 1) (5 ^ T 0 1) 0 = List.range (T 0 1) :: t := ht
      rw [hh, hb] at d3 d4
      have d5 := d4 v p rfl
      have c6 := c5.qR d2
      refine ⟨m5, ?_, fqR_tr (fqR_th m2 (zn 0)) (fqR_tr f70 d2)⟩
      rw [n_M_best, s_isInN (by omega) (by omega), e, bI_s, br_zb, if_pos rfl, n_M_layOrder, d1, bI_s, d3, c6.tr.L]
      by_cases g : k = 5
      · rw [br_eqT g, if_pos g]; rfl
      · rw [br_eqF g (by omega) (by omega), if_neg g]
        by_cases g2 : k < T 0 1
        · rw [br_ltT g2 (by omega), br_oiF (by omega) (by omega), zn_cl (by omega), d5.2 k g2, if_pos g2]
        · rw [br_ltF (by omega) (by omega), if_neg g2]
