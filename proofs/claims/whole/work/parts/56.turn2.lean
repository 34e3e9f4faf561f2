theorem s_turnOf {k : Nat} (hk : sc_k k) {ord : List Nat} {a d : Nat} {m : am_M} (hn : ord.length ≤ 5) (hl : ∀ x, x ∈ ord → x < 1000) (ha : a ∈ ord) (h0 : m.1 k 6 = zn ord.length) (h1 : ∀ i, i < ord.length → m.1 (k + 4) i = zn (ord.getD i 0)) : ∃ i, sp_fd (fun i => ord.getD i 0) (zn a) ord.length 0 = zn i ∧ i < ord.length ∧ ord.getD i 0 = a ∧ am_c (d + 1) y_Scene_turnOf [.ref k, .int (zn a)] m = some (some (.int (zn i)), m) := by
  obtain ⟨i, e1, _, e2, e3⟩ := fd_mem hl (hl a ha) ord.length 0 (by omega) (by rw [List.drop_zero]; exact ha)
  have f1 : am_c (d + 1) y_Scene_turnOf [.ref k, .int (zn a)] m = _ := (n_Scene_turnOf hk d (zn a) m).trans (lp_turnOf (f := fun i => ord.getD i 0) hk hn h0 h1 ord.length 0 29999 (by omega) (by omega))
  exact ⟨i, e1, e2, e3, by rw [f1, e1]⟩
theorem k_turn (x y : Int32) : ask y_C_turn y_M_turn [.int x, .int y] := by
  intro m ⟨T, G, F, q, w, day, num, c, r⟩
  have hk : sc_k 71 := Or.inr (Or.inr (Or.inl rfl))
  have hn5 := c.tw.n; have hL := c.tw.L; have hw5 := hw_len c.qw.hw; have ol := c.qw.ol
  have c2 := c.qR (fqR_th m (zn 0))
  have no : ∀ r', am_c 8 y_C_turn [.ref 0, .int x, .int y] m = some (r', m) → am_c 8 y_M_turn [.ref 107, .int x, .int y] m = some (r', (am_w m.1 107 2 (zn 0), m.2)) → ∃ r m1 m2, am_c 8 y_C_turn [.ref 0, .int x, .int y] m = some (r, m1) ∧ am_c 8 y_M_turn [.ref 107, .int x, .int y] m1 = some (r, m2) ∧ Inv m2 := fun r' h1 h2 => ⟨r', m, _, h1, h2, T, G, F, q, w, day, num, c2, r.qR (fqR_th m (zn 0))⟩
  have cS : am_c 8 y_C_turn [.ref 0, .int x, .int y] m = if isN (T 0 1) x = true then (if isN (T 0 1) y = true then (if x = y then some (some (.int (zn 0)), m) else (am_bV (am_c 7 y_Deeds_add [.ref 102, .int (zn 1), .int x, .int y, .int (zn 0)] m) (fun m5 => am_bV (am_c 7 y_Scene_exchangeTurns [.ref 71, .int x, .int y] m5) (fun m6 => some (some (.int (zn 1)), m6))))) else some (some (.int (zn 0)), m)) else some (some (.int (zn 0)), m) := by
    rw [n_C_turn, s_isLampC c.tc c.tw, bI_s, br_zb, s_isLampC c.tc c.tw, bI_s, br_zb, br_eq]
  have rS : ∀ m1 : am_M, tR T G F (am_w m1.1 107 2 (zn 0), m1.2) → am_c 8 y_M_turn [.ref 107, .int x, .int y] m1 = if isN (T 0 1) x = true then (if isN (T 0 1) y = true then (if x = y then some (some (.int (zn 0)), (am_w m1.1 107 2 (zn 0), m1.2)) else (am_bV (am_c 7 y_M_remember [.ref 107] (am_w m1.1 107 2 (zn 0), m1.2)) (fun m5 => am_bI (am_c 7 y_M_find [.ref 137, .int (zn 0), .int (m5.1 107 13), .int x] m5) (fun r7 m6 => am_bI (am_c 7 y_M_find [.ref 137, .int (zn 0), .int (m6.1 107 13), .int y] m6) (fun r9 m8 => am_b (am_oi r7 10) none (am_b (am_oi r9 10) none (some (some (.int (zn 1)), (am_w (am_w m8.1 137 r7.toNatClampNeg y) 137 r9.toNatClampNeg x, m8.2))))))))) else some (some (.int (zn 0)), (am_w m1.1 107 2 (zn 0), m1.2))) else some (some (.int (zn 0)), (am_w m1.1 107 2 (zn 0), m1.2)) := by
    intro m1 t1
    rw [n_M_turn, s_isLampR t1 c.tw, bI_s, br_zb, s_isLampR t1 c.tw, bI_s, br_zb, br_eq]
  by_cases e1 : isN (T 0 1) x = true
  · by_cases e2 : isN (T 0 1) y = true
    · by_cases e3 : x = y
      · refine no (some (.int (zn 0))) ?_ ?_
        · rw [cS, if_pos e1, if_pos e2, if_pos e3]
        · rw [rS m c2.tr, if_pos e1, if_pos e2, if_pos e3]
      · rw [if_pos e1, if_pos e2, if_neg e3] at cS
        obtain ⟨a, ha, rfl⟩ := isN_t e1
        obtain ⟨b, hb, rfl⟩ := isN_t e2
        have hab : a ≠ b := fun e => e3 (by rw [e])
        have hl : ∀ x, x ∈ q.1 → x < 1000 := fun x hx => by have := c.qw.om x hx; omega
        obtain ⟨n, D, H, h⟩ := r.de
        obtain ⟨m1, a1, a2, a3, a4, a5, a6, a7, a8, a9⟩ := s_addD (d := 5) (x1 := zn 1) (x2 := zn a) (x3 := zn b) (x4 := zn 0) h.n h.cn
        have k6 : m1.1 71 6 = zn q.1.length := by rw [a3 71 (by omega)]; exact c.sc.ol
        have k75 : ∀ i, i < q.1.length → m1.1 (71 + 4) i = zn (q.1.getD i 0) := fun i hi => by rw [a3 (71 + 4) (by omega)]; exact c.sc.os i hi
        obtain ⟨i, i1, i2, i3, i4⟩ := s_turnOf hk (d := 5) (by omega) hl (c.qw.oa a ha) k6 k75
        obtain ⟨j, j1, j2, j3, j4⟩ := s_turnOf hk (d := 5) (by omega) hl (c.qw.oa b hb) k6 k75
        have hij : i ≠ j := fun e => hab (by rw [← i3, ← j3, e])
        have ex : am_c 7 y_Scene_exchangeTurns [.ref 71, .int (zn a), .int (zn b)] m1 = some (none, (am_w (am_w m1.1 (71 + 4) i (zn b)) (71 + 4) j (zn a), m1.2)) := by
          rw [n_Scene_exchangeTurns hk, i4, bI_s, j4, bI_s]; simp (disch := omega) only [w_ne, w_at, wl_ne, wl_at, wc_ne, wc_at, upd_at, upd_ne, upl_at, upl_ne, cpy_in0, zn_cl, zn_add, zn_mul, zn_sub, zn_pm, br_tt, br_ff, br_ltT, br_ltF, br_leT, br_leF, br_eqT, br_eqF, br_eqs, br_eqm, br_eqm', br_ltm, br_mlt, br_lem, br_mle, br_oiF, br_lgge, br_lgle, br_lggt, br_lglt, br_lgeq, br_zb, br_zb1, bV_s, bI_s, bL_s, zo_n, zo_s]
        have os' : ∀ t, t < (sp_tn q.1 a b).length → (am_w (am_w m1.1 (71 + 4) i (zn b)) (71 + 4) j (zn a)) (71 + 4) t = zn ((sp_tn q.1 a b).getD t 0) := fun t ht => by
          rw [tn_len] at ht
          rw [tn_at c.qw.nd i2 j2 ht i3 j3]
          by_cases e : t = i
          · rw [if_pos e, e]; simp (disch := omega) only [w_ne, w_at, wl_ne, wl_at, wc_ne, wc_at, upd_at, upd_ne, upl_at, upl_ne, cpy_in0, zn_cl, zn_add, zn_mul, zn_sub, zn_pm, br_tt, br_ff, br_ltT, br_ltF, br_leT, br_leF, br_eqT, br_eqF, br_eqs, br_eqm, br_eqm', br_ltm, br_mlt, br_lem, br_mle, br_oiF, br_lgge, br_lgle, br_lggt, br_lglt, br_lgeq, br_zb, br_zb1, bV_s, bI_s, bL_s, zo_n, zo_s]
          · rw [if_neg e]
            by_cases e' : t = j
            · rw [if_pos e', e']; simp (disch := omega) only [w_ne, w_at, wl_ne, wl_at, wc_ne, wc_at, upd_at, upd_ne, upl_at, upl_ne, cpy_in0, zn_cl, zn_add, zn_mul, zn_sub, zn_pm, br_tt, br_ff, br_ltT, br_ltF, br_leT, br_leF, br_eqT, br_eqF, br_eqs, br_eqm, br_eqm', br_ltm, br_mlt, br_lem, br_mle, br_oiF, br_lgge, br_lgle, br_lggt, br_lglt, br_lgeq, br_zb, br_zb1, bV_s, bI_s, bL_s, zo_n, zo_s]
            · rw [if_neg e', ← k75 t ht]; simp (disch := omega) only [w_ne, w_at, wl_ne, wl_at, wc_ne, wc_at, upd_at, upd_ne, upl_at, upl_ne, cpy_in0, zn_cl, zn_add, zn_mul, zn_sub, zn_pm, br_tt, br_ff, br_ltT, br_ltF, br_leT, br_leF, br_eqT, br_eqF, br_eqs, br_eqm, br_eqm', br_ltm, br_mlt, br_lem, br_mle, br_oiF, br_lgge, br_lgle, br_lggt, br_lglt, br_lgeq, br_zb, br_zb1, bV_s, bI_s, bL_s, zo_n, zo_s]
        obtain ⟨t1, n1, m2, b1, b2, b3, b4⟩ := deedB (q' := (sp_tn q.1 a b, q.2.1, q.2.2.1, q.2.2.2)) (k := 1) (a := a) (b := b) (p := 0) (m1' := (am_w (am_w m1.1 (71 + 4) i (zn b)) (71 + 4) j (zn a), m1.2)) c r h
          (by
            refine ⟨(tn_len _ _ _).trans ol, ?_, ?_, tn_nd c.qw.nd, c.qw.hu, c.qw.ml, c.qw.ms, c.qw.hw⟩
            · intro l hl
              obtain ⟨x, hx, rfl⟩ := List.mem_map.mp hl
              have := c.qw.om x hx
              show sw1 a b x < T 0 1
              unfold sw1
              by_cases e : x = a
              · rw [if_pos e]; exact hb
              · rw [if_neg e]
                by_cases e' : x = b
                · rw [if_pos e']; exact ha
                · rw [if_neg e']; exact this
            · intro l hl
              refine List.mem_map.mpr ⟨sw1 a b l, c.qw.oa _ ?_, sw1_sw1 a b l⟩
              unfold sw1
              by_cases e : l = a
              · rw [if_pos e]; exact hb
              · rw [if_neg e]
                by_cases e' : l = b
                · rw [if_pos e']; exact ha
                · rw [if_neg e']; exact hl)
          (by
            show (sp_tn (sp_tn q.1 a b) a b, q.2.1, q.2.2.1, q.2.2.2) = q
            rw [tn_tn])
          (Or.inr (Or.inl ⟨rfl, ha, hb, hab⟩)) a2 a3 a4 a5 ⟨a6, a7, a8, a9⟩ rfl (fun p hp => by simp (disch := omega) only [w_ne, w_at, wl_ne, wl_at, wc_ne, wc_at, upd_at, upd_ne, upl_at, upl_ne, cpy_in0, zn_cl, zn_add, zn_mul, zn_sub, zn_pm, br_tt, br_ff, br_ltT, br_ltF, br_leT, br_leF, br_eqT, br_eqF, br_eqs, br_eqm, br_eqm', br_ltm, br_mlt, br_lem, br_mle, br_oiF, br_lgge, br_lgle, br_lggt, br_lglt, br_lgeq, br_zb, br_zb1, bV_s, bI_s, bL_s, zo_n, zo_s])
          (by
            have s71 : ∀ p', 71 ≤ p' → p' ≤ 77 → p' ≠ 71 + 4 → (am_w (am_w m1.1 (71 + 4) i (zn b)) (71 + 4) j (zn a), m1.2).1 p' = m.1 p' := fun p' p1 p2 p3 => by simp (disch := omega) only [w_ne, w_at, wl_ne, wl_at, wc_ne, wc_at, upd_at, upd_ne, upl_at, upl_ne, cpy_in0, zn_cl, zn_add, zn_mul, zn_sub, zn_pm, br_tt, br_ff, br_ltT, br_ltF, br_leT, br_leF, br_eqT, br_eqF, br_eqs, br_eqm, br_eqm', br_ltm, br_mlt, br_lem, br_mle, br_oiF, br_lgge, br_lgle, br_lggt, br_lglt, br_lgeq, br_zb, br_zb1, bV_s, bI_s, bL_s, zo_n, zo_s]; exact a3 p' (by omega)
            unfold sn
            rw [s71 71 (by omega) (by omega) (by omega), s71 (71 + 1) (by omega) (by omega) (by omega), s71 (71 + 2) (by omega) (by omega) (by omega), s71 (71 + 3) (by omega) (by omega) (by omega), s71 (71 + 5) (by omega) (by omega) (by omega), s71 (71 + 6) (by omega) (by omega) (by omega)]
            exact ⟨c.sc.n, c.sc.hs, c.sc.wl, c.sc.ws, c.sc.dy, by rw [c.sc.ol, tn_len], os', c.sc.hu, c.sc.ml, c.sc.ms⟩)
          (by simp (disch := omega) only [w_ne, w_at, wl_ne, wl_at, wc_ne, wc_at, upd_at, upd_ne, upl_at, upl_ne, cpy_in0, zn_cl, zn_add, zn_mul, zn_sub, zn_pm, br_tt, br_ff, br_ltT, br_ltF, br_leT, br_leF, br_eqT, br_eqF, br_eqs, br_eqm, br_eqm', br_ltm, br_mlt, br_lem, br_mle, br_oiF, br_lgge, br_lgle, br_lggt, br_lglt, br_lgeq, br_zb, br_zb1, bV_s, bI_s, bL_s, zo_n, zo_s])
        have o2 : ∀ i, i < T 0 1 → m2.1 137 (0 + i) = zn (q.1.getD i 0) := fun i hi => by rw [Nat.zero_add]; exact b3.os i hi
        have f1 : am_c 7 y_M_find [.ref 137, .int (zn 0), .int (zn (T 0 1)), .int (zn a)] m2 = _ := (n_M_find_137 6 _ _ _ _).trans (lq_find137 (f := fun i => q.1.getD i 0) (b := 0) (by omega) hL o2 (T 0 1) 0 29999 (by omega) (by omega))
        have f2 : am_c 7 y_M_find [.ref 137, .int (zn 0), .int (zn (T 0 1)), .int (zn b)] m2 = _ := (n_M_find_137 6 _ _ _ _).trans (lq_find137 (f := fun i => q.1.getD i 0) (b := 0) (by omega) hL o2 (T 0 1) 0 29999 (by omega) (by omega))
        rw [← ol, i1] at f1
        rw [← ol, j1] at f2
        have k13 : m2.1 107 13 = zn q.1.length := by rw [ol]; exact b2.L
        refine ⟨some (.int (zn 1)), (am_w (am_w m1.1 (71 + 4) i (zn b)) (71 + 4) j (zn a), m1.2), (am_w (am_w m2.1 137 i (zn b)) 137 j (zn a), m2.2), ?_, ?_, b4 _ rfl ?_ ?_ ?_⟩
        · rw [cS, a1, bV_s, ex, bV_s]
        · rw [rS (am_w (am_w m1.1 (71 + 4) i (zn b)) (71 + 4) j (zn a), m1.2) t1, if_pos e1, if_pos e2, if_neg e3, b1, bV_s, k13, f1, bI_s, k13, f2, bI_s]; simp (disch := omega) only [w_ne, w_at, wl_ne, wl_at, wc_ne, wc_at, upd_at, upd_ne, upl_at, upl_ne, cpy_in0, zn_cl, zn_add, zn_mul, zn_sub, zn_pm, br_tt, br_ff, br_ltT, br_ltF, br_leT, br_leF, br_eqT, br_eqF, br_eqs, br_eqm, br_eqm', br_ltm, br_mlt, br_lem, br_mle, br_oiF, br_lgge, br_lgle, br_lggt, br_lglt, br_lgeq, br_zb, br_zb1, bV_s, bI_s, bL_s, zo_n, zo_s]
        · intro p p1 p2; rcases p1 with p1 | p1 <;> simp (disch := omega) only [w_ne, w_at, wl_ne, wl_at, wc_ne, wc_at, upd_at, upd_ne, upl_at, upl_ne, cpy_in0, zn_cl, zn_add, zn_mul, zn_sub, zn_pm, br_tt, br_ff, br_ltT, br_ltF, br_leT, br_leF, br_eqT, br_eqF, br_eqs, br_eqm, br_eqm', br_ltm, br_mlt, br_lem, br_mle, br_oiF, br_lgge, br_lgle, br_lggt, br_lglt, br_lgeq, br_zb, br_zb1, bV_s, bI_s, bL_s, zo_n, zo_s]
        · intro i' _; simp (disch := omega) only [w_ne, w_at, wl_ne, wl_at, wc_ne, wc_at, upd_at, upd_ne, upl_at, upl_ne, cpy_in0, zn_cl, zn_add, zn_mul, zn_sub, zn_pm, br_tt, br_ff, br_ltT, br_ltF, br_leT, br_leF, br_eqT, br_eqF, br_eqs, br_eqm, br_eqm', br_ltm, br_mlt, br_lem, br_mle, br_oiF, br_lgge, br_lgle, br_lggt, br_lglt, br_lgeq, br_zb, br_zb1, bV_s, bI_s, bL_s, zo_n, zo_s]
        · have s132 : ∀ p', 132 ≤ p' → p' ≤ 139 → p' ≠ 137 → (am_w (am_w m2.1 137 i (zn b)) 137 j (zn a), m2.2).1 p' = m2.1 p' := fun p' p1 p2 p3 => by simp (disch := omega) only [w_ne, w_at, wl_ne, wl_at, wc_ne, wc_at, upd_at, upd_ne, upl_at, upl_ne, cpy_in0, zn_cl, zn_add, zn_mul, zn_sub, zn_pm, br_tt, br_ff, br_ltT, br_ltF, br_leT, br_leF, br_eqT, br_eqF, br_eqs, br_eqm, br_eqm', br_ltm, br_mlt, br_lem, br_mle, br_oiF, br_lgge, br_lgle, br_lggt, br_lglt, br_lgeq, br_zb, br_zb1, bV_s, bI_s, bL_s, zo_n, zo_s]
          have s107 : (am_w (am_w m2.1 137 i (zn b)) 137 j (zn a), m2.2).1 107 = m2.1 107 := by simp (disch := omega) only [w_ne, w_at, wl_ne, wl_at, wc_ne, wc_at, upd_at, upd_ne, upl_at, upl_ne, cpy_in0, zn_cl, zn_add, zn_mul, zn_sub, zn_pm, br_tt, br_ff, br_ltT, br_ltF, br_leT, br_leF, br_eqT, br_eqF, br_eqs, br_eqm, br_eqm', br_ltm, br_mlt, br_lem, br_mle, br_oiF, br_lgge, br_lgle, br_lggt, br_lglt, br_lgeq, br_zb, br_zb1, bV_s, bI_s, bL_s, zo_n, zo_s]
          unfold nR
          rw [s132 132 (by omega) (by omega) (by omega), s132 133 (by omega) (by omega) (by omega), s132 134 (by omega) (by omega) (by omega), s132 135 (by omega) (by omega) (by omega), s132 136 (by omega) (by omega) (by omega), s132 138 (by omega) (by omega) (by omega), s132 139 (by omega) (by omega) (by omega), s107]
          refine ⟨b3.hs, b3.h5, b3.wl, b3.ws, b3.dy, (tn_len _ _ _).trans ol, ?_, b3.hu, b3.ml, b3.ms, b3.dr⟩
          intro t ht
          show (am_w (am_w m2.1 137 i (zn b)) 137 j (zn a)) 137 t = zn ((sp_tn q.1 a b).getD t 0)
          rw [tn_at c.qw.nd i2 j2 (by omega) i3 j3]
          by_cases e : t = i
          · rw [if_pos e, e]; simp (disch := omega) only [w_ne, w_at, wl_ne, wl_at, wc_ne, wc_at, upd_at, upd_ne, upl_at, upl_ne, cpy_in0, zn_cl, zn_add, zn_mul, zn_sub, zn_pm, br_tt, br_ff, br_ltT, br_ltF, br_leT, br_leF, br_eqT, br_eqF, br_eqs, br_eqm, br_eqm', br_ltm, br_mlt, br_lem, br_mle, br_oiF, br_lgge, br_lgle, br_lggt, br_lglt, br_lgeq, br_zb, br_zb1, bV_s, bI_s, bL_s, zo_n, zo_s]
          · rw [if_neg e]
            by_cases e' : t = j
            · rw [if_pos e', e']; simp (disch := omega) only [w_ne, w_at, wl_ne, wl_at, wc_ne, wc_at, upd_at, upd_ne, upl_at, upl_ne, cpy_in0, zn_cl, zn_add, zn_mul, zn_sub, zn_pm, br_tt, br_ff, br_ltT, br_ltF, br_leT, br_leF, br_eqT, br_eqF, br_eqs, br_eqm, br_eqm', br_ltm, br_mlt, br_lem, br_mle, br_oiF, br_lgge, br_lgle, br_lggt, br_lglt, br_lgeq, br_zb, br_zb1, bV_s, bI_s, bL_s, zo_n, zo_s]
            · rw [if_neg e', ← b3.os t ht]; simp (disch := omega) only [w_ne, w_at, wl_ne, wl_at, wc_ne, wc_at, upd_at, upd_ne, upl_at, upl_ne, cpy_in0, zn_cl, zn_add, zn_mul, zn_sub, zn_pm, br_tt, br_ff, br_ltT, br_ltF, br_leT, br_leF, br_eqT, br_eqF, br_eqs, br_eqm, br_eqm', br_ltm, br_mlt, br_lem, br_mle, br_oiF, br_lgge, br_lgle, br_lggt, br_lglt, br_lgeq, br_zb, br_zb1, bV_s, bI_s, bL_s, zo_n, zo_s]
    · refine no (some (.int (zn 0))) ?_ ?_
      · rw [cS, if_pos e1, if_neg e2]
      · rw [rS m c2.tr, if_pos e1, if_neg e2]
  · refine no (some (.int (zn 0))) ?_ ?_
    · rw [cS, if_neg e1]
    · rw [rS m c2.tr, if_neg e1]
