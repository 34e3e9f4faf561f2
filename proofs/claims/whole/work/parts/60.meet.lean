/-! a meeting agreed or given up -/
theorem k_meet (x y : Int32) (bb : Bool) : ask y_C_meet y_M_meet [.int x, .int y, .int (zb bb)] := by
  intro m ⟨T, G, F, q, w, day, num, c, r⟩
  have hk : sc_k 71 := Or.inr (Or.inr (Or.inl rfl))
  have hn5 := c.tw.n; have hL := c.tw.L; have hw5 := hw_len c.qw.hw; have ol := c.qw.ol; have ml := c.qw.ml
  have c2 := c.qR (fqR_th m (zn 0))
  have no : ∀ r', am_c 8 y_C_meet [.ref 0, .int x, .int y, .int (zb bb)] m = some (r', m) → am_c 8 y_M_meet [.ref 107, .int x, .int y, .int (zb bb)] m = some (r', (am_w m.1 107 2 (zn 0), m.2)) → ∃ r m1 m2, am_c 8 y_C_meet [.ref 0, .int x, .int y, .int (zb bb)] m = some (r, m1) ∧ am_c 8 y_M_meet [.ref 107, .int x, .int y, .int (zb bb)] m1 = some (r, m2) ∧ Inv m2 := fun r' h1 h2 => ⟨r', m, _, h1, h2, T, G, F, q, w, day, num, c2, r.qR (fqR_th m (zn 0))⟩
  by_cases e1 : is2 T x y = true
  · obtain ⟨a, b, ha, hb, hab, rfl, rfl⟩ := is2_t e1
    have xa : isN (T 0 0) (zn a) = true := by unfold is2 at e1; rw [Bool.and_eq_true] at e1; exact e1.1
    have xb : isN (T 0 0) (zn b) = true := by unfold is2 at e1; rw [Bool.and_eq_true, Bool.and_eq_true] at e1; exact e1.2.1
    obtain ⟨o, ho⟩ : ∃ o, sp_fm q.2.2.1 (min a b, max a b) q.2.2.1.length 0 = o := ⟨_, rfl⟩
    have ob : ∀ p, o = some p → p < q.2.2.1.length := fun p e => (fm_lt q.2.2.1.length 0 p (by omega) (ho.trans e)).2.1
    have rS : ∀ m1 : am_M, tR T G F (am_w m1.1 107 2 (zn 0), m1.2) → nR T q.1 q.2.1 q.2.2.1 q.2.2.2 w day num (am_w m1.1 107 2 (zn 0), m1.2) → am_c 8 y_M_meet [.ref 107, .int (zn a), .int (zn b), .int (zb bb)] m1 = if (o = none ∧ bb = true ∧ q.2.2.1.length < 10) ∨ (o ≠ none ∧ bb = false) then r_M_meet_65 7 29999 (zn a) (zn b) (zb bb) (zo o) (am_w m1.1 107 2 (zn 0), m1.2) else some (some (.int (zn 0)), (am_w m1.1 107 2 (zn 0), m1.2)) := by
      intro m1 t1 n1
      have mo : am_c 7 y_M_meetingOf [.ref 107, .int (zn a), .int (zn b)] (am_w m1.1 107 2 (zn 0), m1.2) = some (some (.int (zo o)), (am_w m1.1 107 2 (zn 0), m1.2)) := by
        rw [n_M_meetingOf, lq_pair c.qw.ml (fun p hp => by have := c.qw.ms p hp; omega) (by omega) (by omega) n1.ml n1.ms q.2.2.1.length 0 29999 (by omega) (by omega), ho]
      have k55 : m1.1 107 55 = zn q.2.2.1.length := by have := n1.ml; revert this; simp (disch := omega) only [w_ne, w_at, wl_ne, wl_at, wc_ne, wc_at, upd_at, upd_ne, upl_at, upl_ne, cpy_in0, zn_cl, zn_add, zn_mul, zn_sub, zn_pm, br_tt, br_ff, br_ltT, br_ltF, br_leT, br_leF, br_eqT, br_eqF, br_eqs, br_eqm, br_eqm', br_ltm, br_mlt, br_lem, br_mle, br_oiF, br_lgge, br_lgle, br_lggt, br_lglt, br_lgeq, br_zb, br_zb1, bV_s, bI_s, bL_s, zo_n, zo_s]; exact id
      rw [n_M_meet, s_isThingR t1 c.tw, bI_s, br_zb, if_pos xa, s_isThingR t1 c.tw, bI_s, br_zb, if_pos xb, br_eqF (by omega) (by omega) (by omega), mo, bI_s]
      rcases opt_c o with e | ⟨p, e⟩
      · cases bb with
        | false => rw [if_neg (by rintro (⟨_, h, _⟩ | ⟨h, _⟩); cases h; exact h e), e, zo_n, zb_f]; simp (disch := omega) only [w_ne, w_at, wl_ne, wl_at, wc_ne, wc_at, upd_at, upd_ne, upl_at, upl_ne, cpy_in0, zn_cl, zn_add, zn_mul, zn_sub, zn_pm, br_tt, br_ff, br_ltT, br_ltF, br_leT, br_leF, br_eqT, br_eqF, br_eqs, br_eqm, br_eqm', br_ltm, br_mlt, br_lem, br_mle, br_oiF, br_lgge, br_lgle, br_lggt, br_lglt, br_lgeq, br_zb, br_zb1, bV_s, bI_s, bL_s, zo_n, zo_s]
        | true =>
          rw [zb_t]
          by_cases l : q.2.2.1.length < 10
          · rw [if_pos (Or.inl ⟨e, rfl, l⟩), e, zo_n]; simp (disch := omega) only [w_ne, w_at, wl_ne, wl_at, wc_ne, wc_at, upd_at, upd_ne, upl_at, upl_ne, cpy_in0, zn_cl, zn_add, zn_mul, zn_sub, zn_pm, br_tt, br_ff, br_ltT, br_ltF, br_leT, br_leF, br_eqT, br_eqF, br_eqs, br_eqm, br_eqm', br_ltm, br_mlt, br_lem, br_mle, br_oiF, br_lgge, br_lgle, br_lggt, br_lglt, br_lgeq, br_zb, br_zb1, bV_s, bI_s, bL_s, zo_n, zo_s, k55]
          · rw [if_neg (by rintro (⟨_, _, h⟩ | ⟨h, _⟩); exact l h; exact h e), e, zo_n]; simp (disch := omega) only [w_ne, w_at, wl_ne, wl_at, wc_ne, wc_at, upd_at, upd_ne, upl_at, upl_ne, cpy_in0, zn_cl, zn_add, zn_mul, zn_sub, zn_pm, br_tt, br_ff, br_ltT, br_ltF, br_leT, br_leF, br_eqT, br_eqF, br_eqs, br_eqm, br_eqm', br_ltm, br_mlt, br_lem, br_mle, br_oiF, br_lgge, br_lgle, br_lggt, br_lglt, br_lgeq, br_zb, br_zb1, bV_s, bI_s, bL_s, zo_n, zo_s, k55, (show q.2.2.1.length = 10 by omega)]
      · have := ob p e
        cases bb with
        | false => rw [if_pos (Or.inr ⟨(by rw [e]; exact fun h => by cases h), rfl⟩), e, zo_s, zb_f]; simp (disch := omega) only [w_ne, w_at, wl_ne, wl_at, wc_ne, wc_at, upd_at, upd_ne, upl_at, upl_ne, cpy_in0, zn_cl, zn_add, zn_mul, zn_sub, zn_pm, br_tt, br_ff, br_ltT, br_ltF, br_leT, br_leF, br_eqT, br_eqF, br_eqs, br_eqm, br_eqm', br_ltm, br_mlt, br_lem, br_mle, br_oiF, br_lgge, br_lgle, br_lggt, br_lglt, br_lgeq, br_zb, br_zb1, bV_s, bI_s, bL_s, zo_n, zo_s]
        | true => rw [if_neg (by rintro (⟨h, _, _⟩ | ⟨_, h⟩); rw [e] at h; cases h; cases h), e, zo_s, zb_t]; simp (disch := omega) only [w_ne, w_at, wl_ne, wl_at, wc_ne, wc_at, upd_at, upd_ne, upl_at, upl_ne, cpy_in0, zn_cl, zn_add, zn_mul, zn_sub, zn_pm, br_tt, br_ff, br_ltT, br_ltF, br_leT, br_leF, br_eqT, br_eqF, br_eqs, br_eqm, br_eqm', br_ltm, br_mlt, br_lem, br_mle, br_oiF, br_lgge, br_lgle, br_lggt, br_lglt, br_lgeq, br_zb, br_zb1, bV_s, bI_s, bL_s, zo_n, zo_s]
    have cS : am_c 8 y_C_meet [.ref 0, .int (zn a), .int (zn b), .int (zb bb)] m = if (o = none ∧ bb = true ∧ q.2.2.1.length < 10) ∨ (o ≠ none ∧ bb = false) then r_C_meet_55 7 29999 (zn a) (zn b) (zb bb) (zo o) m else some (some (.int (zn 0)), m) := by
      have k9 : m.1 71 9 = zn q.2.2.1.length := c.sc.ml
      rw [n_C_meet, s_are2 c.tc c.tw, bI_s, br_zb, if_pos e1, s_findM c ha hb, bI_s, ho]
      rcases opt_c o with e | ⟨p, e⟩
      · cases bb with
        | false => rw [if_neg (by rintro (⟨_, h, _⟩ | ⟨h, _⟩); cases h; exact h e), e, zo_n, zb_f]; simp (disch := omega) only [w_ne, w_at, wl_ne, wl_at, wc_ne, wc_at, upd_at, upd_ne, upl_at, upl_ne, cpy_in0, zn_cl, zn_add, zn_mul, zn_sub, zn_pm, br_tt, br_ff, br_ltT, br_ltF, br_leT, br_leF, br_eqT, br_eqF, br_eqs, br_eqm, br_eqm', br_ltm, br_mlt, br_lem, br_mle, br_oiF, br_lgge, br_lgle, br_lggt, br_lglt, br_lgeq, br_zb, br_zb1, bV_s, bI_s, bL_s, zo_n, zo_s]
        | true =>
          rw [zb_t]
          by_cases l : q.2.2.1.length < 10
          · rw [if_pos (Or.inl ⟨e, rfl, l⟩), e, zo_n]; simp (disch := omega) only [w_ne, w_at, wl_ne, wl_at, wc_ne, wc_at, upd_at, upd_ne, upl_at, upl_ne, cpy_in0, zn_cl, zn_add, zn_mul, zn_sub, zn_pm, br_tt, br_ff, br_ltT, br_ltF, br_leT, br_leF, br_eqT, br_eqF, br_eqs, br_eqm, br_eqm', br_ltm, br_mlt, br_lem, br_mle, br_oiF, br_lgge, br_lgle, br_lggt, br_lglt, br_lgeq, br_zb, br_zb1, bV_s, bI_s, bL_s, zo_n, zo_s, k9]
          · rw [if_neg (by rintro (⟨_, _, h⟩ | ⟨h, _⟩); exact l h; exact h e), e, zo_n]; simp (disch := omega) only [w_ne, w_at, wl_ne, wl_at, wc_ne, wc_at, upd_at, upd_ne, upl_at, upl_ne, cpy_in0, zn_cl, zn_add, zn_mul, zn_sub, zn_pm, br_tt, br_ff, br_ltT, br_ltF, br_leT, br_leF, br_eqT, br_eqF, br_eqs, br_eqm, br_eqm', br_ltm, br_mlt, br_lem, br_mle, br_oiF, br_lgge, br_lgle, br_lggt, br_lglt, br_lgeq, br_zb, br_zb1, bV_s, bI_s, bL_s, zo_n, zo_s, k9]
      · have := ob p e
        cases bb with
        | false => rw [if_pos (Or.inr ⟨(by rw [e]; exact fun h => by cases h), rfl⟩), e, zo_s, zb_f]; simp (disch := omega) only [w_ne, w_at, wl_ne, wl_at, wc_ne, wc_at, upd_at, upd_ne, upl_at, upl_ne, cpy_in0, zn_cl, zn_add, zn_mul, zn_sub, zn_pm, br_tt, br_ff, br_ltT, br_ltF, br_leT, br_leF, br_eqT, br_eqF, br_eqs, br_eqm, br_eqm', br_ltm, br_mlt, br_lem, br_mle, br_oiF, br_lgge, br_lgle, br_lggt, br_lglt, br_lgeq, br_zb, br_zb1, bV_s, bI_s, bL_s, zo_n, zo_s]
        | true => rw [if_neg (by rintro (⟨h, _, _⟩ | ⟨_, h⟩); rw [e] at h; cases h; cases h), e, zo_s, zb_t]; simp (disch := omega) only [w_ne, w_at, wl_ne, wl_at, wc_ne, wc_at, upd_at, upd_ne, upl_at, upl_ne, cpy_in0, zn_cl, zn_add, zn_mul, zn_sub, zn_pm, br_tt, br_ff, br_ltT, br_ltF, br_leT, br_leF, br_eqT, br_eqF, br_eqs, br_eqm, br_eqm', br_ltm, br_mlt, br_lem, br_mle, br_oiF, br_lgge, br_lgle, br_lggt, br_lglt, br_lgeq, br_zb, br_zb1, bV_s, bI_s, bL_s, zo_n, zo_s]
    by_cases ok : (o = none ∧ bb = true ∧ q.2.2.1.length < 10) ∨ (o ≠ none ∧ bb = false)
    · rw [if_pos ok] at cS
      obtain ⟨n, D, H, h⟩ := r.de
      rcases ok with ⟨oe, be, l10⟩ | ⟨on, be⟩
      · subst be
        obtain ⟨m1, a1, a2, a3, a4, a5, a6, a7, a8, a9⟩ := s_addD (d := 5) (x1 := zn 3) (x2 := zn a) (x3 := zn b) (x4 := zn q.2.2.1.length) h.n h.cn
        have k9 : m1.1 71 9 = zn q.2.2.1.length := by rw [a3 71 (by omega)]; exact c.sc.ml
        obtain ⟨m1', u1, u2, u3, u4, u5, u6, u7, u8⟩ := s_addM hk (d := 6) (p := q.2.2.1.length) (x2 := zn a) (x3 := zn b) (Nat.le_refl _) l10 k9
        have el : (q.2.2.1.insertIdx q.2.2.1.length (min a b, max a b)).length = q.2.2.1.length + 1 := by rw [List.length_insertIdx, if_pos (Nat.le_refl _)]
        obtain ⟨t1, n1, m2, b1, b2, b3, b4⟩ := deedB (q' := (q.1, q.2.1, q.2.2.1.insertIdx q.2.2.1.length (min a b, max a b), q.2.2.2)) (k := 3) (a := a) (b := b) (p := q.2.2.1.length) (m1' := m1') c r h
          ⟨ol, c.qw.om, c.qw.oa, c.qw.nd, c.qw.hu, (by show (q.2.2.1.insertIdx q.2.2.1.length (min a b, max a b)).length ≤ 10; omega), (by
            intro x hx
            rcases (List.mem_insertIdx (Nat.le_refl _)).mp hx with e | e
            · rw [e]; show min a b < max a b ∧ max a b < T 0 0; omega
            · exact c.qw.ms x e), c.qw.hw⟩
          (by
            show (q.1, q.2.1, (q.2.2.1.insertIdx q.2.2.1.length (min a b, max a b)).eraseIdx q.2.2.1.length, q.2.2.2) = q
            rw [ap_er])
          (Or.inr (Or.inr (Or.inr (Or.inl ⟨rfl, (by show q.2.2.1.length < (q.2.2.1.insertIdx q.2.2.1.length (min a b, max a b)).length; omega)⟩)))) a2 a3 a4 a5 ⟨a6, a7, a8, a9⟩ u2 (fun p hp => u3 p (by omega) (by omega) (by omega))
          (sn_add (c.sc.mono (fun p _ _ => a3 p (by omega))) (Nat.le_refl _) u3 u4 u5 u6 u7 u8)
          (u4 11 (by omega))
        have k55 : m2.1 107 55 = zn q.2.2.1.length := b3.ml
        refine ⟨some (.int (zn 1)), m1', (am_w (am_w (am_w m2.1 138 q.2.2.1.length (zn (min a b))) 139 q.2.2.1.length (zn (max a b))) 107 55 (zn (q.2.2.1.length + 1)), m2.2), ?_, ?_, b4 _ rfl ?_ ?_ ?_⟩
        · have k9' : m.1 71 9 = zn q.2.2.1.length := c.sc.ml
          rw [cS, e_C_meet_55 7 29998, zb_t]; simp (disch := omega) only [w_ne, w_at, wl_ne, wl_at, wc_ne, wc_at, upd_at, upd_ne, upl_at, upl_ne, cpy_in0, zn_cl, zn_add, zn_mul, zn_sub, zn_pm, br_tt, br_ff, br_ltT, br_ltF, br_leT, br_leF, br_eqT, br_eqF, br_eqs, br_eqm, br_eqm', br_ltm, br_mlt, br_lem, br_mle, br_oiF, br_lgge, br_lgle, br_lggt, br_lglt, br_lgeq, br_zb, br_zb1, bV_s, bI_s, bL_s, zo_n, zo_s, k9']
          rw [a1, bV_s, k9, u1, bV_s]
        · rw [rS m1' t1 n1, if_pos (Or.inl ⟨oe, rfl, l10⟩), e_M_meet_65 7 29998, b1, bV_s, k55, zb_t]
          rcases Nat.lt_or_gt_of_ne hab with g | g
          · rw [Nat.min_eq_left (by omega), Nat.max_eq_right (by omega)]; simp (disch := omega) only [w_ne, w_at, wl_ne, wl_at, wc_ne, wc_at, upd_at, upd_ne, upl_at, upl_ne, cpy_in0, zn_cl, zn_add, zn_mul, zn_sub, zn_pm, br_tt, br_ff, br_ltT, br_ltF, br_leT, br_leF, br_eqT, br_eqF, br_eqs, br_eqm, br_eqm', br_ltm, br_mlt, br_lem, br_mle, br_oiF, br_lgge, br_lgle, br_lggt, br_lglt, br_lgeq, br_zb, br_zb1, bV_s, bI_s, bL_s, zo_n, zo_s]
          · rw [Nat.min_eq_right (by omega), Nat.max_eq_left (by omega)]; simp (disch := omega) only [w_ne, w_at, wl_ne, wl_at, wc_ne, wc_at, upd_at, upd_ne, upl_at, upl_ne, cpy_in0, zn_cl, zn_add, zn_mul, zn_sub, zn_pm, br_tt, br_ff, br_ltT, br_ltF, br_leT, br_leF, br_eqT, br_eqF, br_eqs, br_eqm, br_eqm', br_ltm, br_mlt, br_lem, br_mle, br_oiF, br_lgge, br_lgle, br_lggt, br_lglt, br_lgeq, br_zb, br_zb1, bV_s, bI_s, bL_s, zo_n, zo_s]
        · intro p p1 p2; rcases p1 with p1 | p1 <;> simp (disch := omega) only [w_ne, w_at, wl_ne, wl_at, wc_ne, wc_at, upd_at, upd_ne, upl_at, upl_ne, cpy_in0, zn_cl, zn_add, zn_mul, zn_sub, zn_pm, br_tt, br_ff, br_ltT, br_ltF, br_leT, br_leF, br_eqT, br_eqF, br_eqs, br_eqm, br_eqm', br_ltm, br_mlt, br_lem, br_mle, br_oiF, br_lgge, br_lgle, br_lggt, br_lglt, br_lgeq, br_zb, br_zb1, bV_s, bI_s, bL_s, zo_n, zo_s]
        · intro i' hi; simp (disch := omega) only [w_ne, w_at, wl_ne, wl_at, wc_ne, wc_at, upd_at, upd_ne, upl_at, upl_ne, cpy_in0, zn_cl, zn_add, zn_mul, zn_sub, zn_pm, br_tt, br_ff, br_ltT, br_ltF, br_leT, br_leF, br_eqT, br_eqF, br_eqs, br_eqm, br_eqm', br_ltm, br_mlt, br_lem, br_mle, br_oiF, br_lgge, br_lgle, br_lggt, br_lglt, br_lgeq, br_zb, br_zb1, bV_s, bI_s, bL_s, zo_n, zo_s]
        · refine ⟨?_, ?_, ?_, ?_, ?_, ol, ?_, ?_, ?_, ?_, b3.dr⟩
          · intro t ht; simp (disch := omega) only [w_ne, w_at, wl_ne, wl_at, wc_ne, wc_at, upd_at, upd_ne, upl_at, upl_ne, cpy_in0, zn_cl, zn_add, zn_mul, zn_sub, zn_pm, br_tt, br_ff, br_ltT, br_ltF, br_leT, br_leF, br_eqT, br_eqF, br_eqs, br_eqm, br_eqm', br_ltm, br_mlt, br_lem, br_mle, br_oiF, br_lgge, br_lgle, br_lggt, br_lglt, br_lgeq, br_zb, br_zb1, bV_s, bI_s, bL_s, zo_n, zo_s]; exact b3.hs t ht
          · intro t t1 t2; simp (disch := omega) only [w_ne, w_at, wl_ne, wl_at, wc_ne, wc_at, upd_at, upd_ne, upl_at, upl_ne, cpy_in0, zn_cl, zn_add, zn_mul, zn_sub, zn_pm, br_tt, br_ff, br_ltT, br_ltF, br_leT, br_leF, br_eqT, br_eqF, br_eqs, br_eqm, br_eqm', br_ltm, br_mlt, br_lem, br_mle, br_oiF, br_lgge, br_lgle, br_lggt, br_lglt, br_lgeq, br_zb, br_zb1, bV_s, bI_s, bL_s, zo_n, zo_s]; exact b3.h5 t t1 t2
          · simp (disch := omega) only [w_ne, w_at, wl_ne, wl_at, wc_ne, wc_at, upd_at, upd_ne, upl_at, upl_ne, cpy_in0, zn_cl, zn_add, zn_mul, zn_sub, zn_pm, br_tt, br_ff, br_ltT, br_ltF, br_leT, br_leF, br_eqT, br_eqF, br_eqs, br_eqm, br_eqm', br_ltm, br_mlt, br_lem, br_mle, br_oiF, br_lgge, br_lgle, br_lggt, br_lglt, br_lgeq, br_zb, br_zb1, bV_s, bI_s, bL_s, zo_n, zo_s]; exact b3.wl
          · intro t ht; simp (disch := omega) only [w_ne, w_at, wl_ne, wl_at, wc_ne, wc_at, upd_at, upd_ne, upl_at, upl_ne, cpy_in0, zn_cl, zn_add, zn_mul, zn_sub, zn_pm, br_tt, br_ff, br_ltT, br_ltF, br_leT, br_leF, br_eqT, br_eqF, br_eqs, br_eqm, br_eqm', br_ltm, br_mlt, br_lem, br_mle, br_oiF, br_lgge, br_lgle, br_lggt, br_lglt, br_lgeq, br_zb, br_zb1, bV_s, bI_s, bL_s, zo_n, zo_s]; exact b3.ws t ht
          · simp (disch := omega) only [w_ne, w_at, wl_ne, wl_at, wc_ne, wc_at, upd_at, upd_ne, upl_at, upl_ne, cpy_in0, zn_cl, zn_add, zn_mul, zn_sub, zn_pm, br_tt, br_ff, br_ltT, br_ltF, br_leT, br_leF, br_eqT, br_eqF, br_eqs, br_eqm, br_eqm', br_ltm, br_mlt, br_lem, br_mle, br_oiF, br_lgge, br_lgle, br_lggt, br_lglt, br_lgeq, br_zb, br_zb1, bV_s, bI_s, bL_s, zo_n, zo_s]; exact b3.dy
          · intro t ht; simp (disch := omega) only [w_ne, w_at, wl_ne, wl_at, wc_ne, wc_at, upd_at, upd_ne, upl_at, upl_ne, cpy_in0, zn_cl, zn_add, zn_mul, zn_sub, zn_pm, br_tt, br_ff, br_ltT, br_ltF, br_leT, br_leF, br_eqT, br_eqF, br_eqs, br_eqm, br_eqm', br_ltm, br_mlt, br_lem, br_mle, br_oiF, br_lgge, br_lgle, br_lggt, br_lglt, br_lgeq, br_zb, br_zb1, bV_s, bI_s, bL_s, zo_n, zo_s]; exact b3.os t ht
          · intro t ht; simp (disch := omega) only [w_ne, w_at, wl_ne, wl_at, wc_ne, wc_at, upd_at, upd_ne, upl_at, upl_ne, cpy_in0, zn_cl, zn_add, zn_mul, zn_sub, zn_pm, br_tt, br_ff, br_ltT, br_ltF, br_leT, br_leF, br_eqT, br_eqF, br_eqs, br_eqm, br_eqm', br_ltm, br_mlt, br_lem, br_mle, br_oiF, br_lgge, br_lgle, br_lggt, br_lglt, br_lgeq, br_zb, br_zb1, bV_s, bI_s, bL_s, zo_n, zo_s]; exact b3.hu t ht
          · show _ = zn (q.2.2.1.insertIdx q.2.2.1.length (min a b, max a b)).length
            rw [el]; simp (disch := omega) only [w_ne, w_at, wl_ne, wl_at, wc_ne, wc_at, upd_at, upd_ne, upl_at, upl_ne, cpy_in0, zn_cl, zn_add, zn_mul, zn_sub, zn_pm, br_tt, br_ff, br_ltT, br_ltF, br_leT, br_leF, br_eqT, br_eqF, br_eqs, br_eqm, br_eqm', br_ltm, br_mlt, br_lem, br_mle, br_oiF, br_lgge, br_lgle, br_lggt, br_lglt, br_lgeq, br_zb, br_zb1, bV_s, bI_s, bL_s, zo_n, zo_s]
          · intro i hi
            have hi' : i < q.2.2.1.length + 1 := by rw [← el]; exact hi
            show _ = zn ((q.2.2.1.insertIdx q.2.2.1.length (min a b, max a b)).getD i (0, 0)).1 ∧ _ = zn ((q.2.2.1.insertIdx q.2.2.1.length (min a b, max a b)).getD i (0, 0)).2
            rw [in_at (Nat.le_refl _)]
            by_cases e : i < q.2.2.1.length
            · rw [if_pos e, ← (b3.ms i e).1, ← (b3.ms i e).2]; simp (disch := omega) only [w_ne, w_at, wl_ne, wl_at, wc_ne, wc_at, upd_at, upd_ne, upl_at, upl_ne, cpy_in0, zn_cl, zn_add, zn_mul, zn_sub, zn_pm, br_tt, br_ff, br_ltT, br_ltF, br_leT, br_leF, br_eqT, br_eqF, br_eqs, br_eqm, br_eqm', br_ltm, br_mlt, br_lem, br_mle, br_oiF, br_lgge, br_lgle, br_lggt, br_lglt, br_lgeq, br_zb, br_zb1, bV_s, bI_s, bL_s, zo_n, zo_s, and_self]
            · rw [if_neg e, if_pos (by omega), (show i = q.2.2.1.length by omega)]; simp (disch := omega) only [w_ne, w_at, wl_ne, wl_at, wc_ne, wc_at, upd_at, upd_ne, upl_at, upl_ne, cpy_in0, zn_cl, zn_add, zn_mul, zn_sub, zn_pm, br_tt, br_ff, br_ltT, br_ltF, br_leT, br_leF, br_eqT, br_eqF, br_eqs, br_eqm, br_eqm', br_ltm, br_mlt, br_lem, br_mle, br_oiF, br_lgge, br_lgle, br_lggt, br_lglt, br_lgeq, br_zb, br_zb1, bV_s, bI_s, bL_s, zo_n, zo_s, and_self]
      · subst be
        obtain ⟨p, oe⟩ : ∃ p, o = some p := (opt_c o).resolve_left on
        have hp := ob p oe
        have hx : (q.2.2.1.getD p (0, 0)).1 < (q.2.2.1.getD p (0, 0)).2 ∧ (q.2.2.1.getD p (0, 0)).2 < T 0 0 := by
          rw [List.getD_eq_getElem?_getD, List.getElem?_eq_getElem hp]; exact c.qw.ms _ (List.getElem_mem hp)
        have mp := mt_pair (fun x hx => (c.qw.ms x hx).1) hp
        obtain ⟨u, v, ku, kv, uv, un, vn, ne⟩ : ∃ u v, m.1 76 p = zn u ∧ m.1 77 p = zn v ∧ (min u v, max u v) = q.2.2.1.getD p (0, 0) ∧ u < T 0 0 ∧ v < T 0 0 ∧ u ≠ v := by
          rcases c.sc.ms p hp with ⟨g1, g2⟩ | ⟨g1, g2⟩
          · exact ⟨_, _, g1, g2, mp.1, by omega, by omega, by omega⟩
          · exact ⟨_, _, g1, g2, mp.2, by omega, by omega, by omega⟩
        obtain ⟨m1, a1, a2, a3, a4, a5, a6, a7, a8, a9⟩ := s_addD (d := 5) (x1 := zn 4) (x2 := zn u) (x3 := zn v) (x4 := zn p) h.n h.cn
        have k9 : m1.1 71 9 = zn q.2.2.1.length := by rw [a3 71 (by omega)]; exact c.sc.ml
        obtain ⟨m1', u1, u2, u3, u4, u5, u6, u7⟩ := s_removeM hk (d := 6) (p := p) hp ml k9
        have el : (q.2.2.1.eraseIdx p).length = q.2.2.1.length - 1 := by rw [List.length_eraseIdx, if_pos hp]
        obtain ⟨t1, n1, m2, b1, b2, b3, b4⟩ := deedB (q' := (q.1, q.2.1, q.2.2.1.eraseIdx p, q.2.2.2)) (k := 4) (a := u) (b := v) (p := p) (m1' := m1') c r h
          ⟨ol, c.qw.om, c.qw.oa, c.qw.nd, c.qw.hu, (by show (q.2.2.1.eraseIdx p).length ≤ 10; omega), (fun x hx => c.qw.ms x (List.mem_of_mem_eraseIdx hx)), c.qw.hw⟩
          (by
            show (q.1, q.2.1, (q.2.2.1.eraseIdx p).insertIdx p (min u v, max u v), q.2.2.2) = q
            rw [uv, er_in hp])
          (Or.inr (Or.inr (Or.inr (Or.inr ⟨rfl, un, vn, ne, (by show p ≤ (q.2.2.1.eraseIdx p).length; omega), (by show (q.2.2.1.eraseIdx p).length < 10; omega)⟩)))) a2 a3 a4 a5 ⟨a6, a7, a8, a9⟩ u2 (fun p hp => u3 p (by omega) (by omega) (by omega))
          (sn_rm (c.sc.mono (fun p _ _ => a3 p (by omega))) hp u3 u4 u5 u6 u7)
          (u4 11 (by omega))
        have k55 : m2.1 107 55 = zn q.2.2.1.length := b3.ml
        obtain ⟨m3, v1, v2, v3, v4, v5⟩ := lp_rmR (d := 7) (M := q.2.2.1.length - 1) (x1 := zn a) (x2 := zn b) (x3 := zn 0) (x4 := zn p) (by omega) (q.2.2.1.length - 1 - p) p 29998 (am_w m2.1 107 55 (zn (q.2.2.1.length - 1)), m2.2) (by omega) (by omega) (by simp (disch := omega) only [w_ne, w_at, wl_ne, wl_at, wc_ne, wc_at, upd_at, upd_ne, upl_at, upl_ne, cpy_in0, zn_cl, zn_add, zn_mul, zn_sub, zn_pm, br_tt, br_ff, br_ltT, br_ltF, br_leT, br_leF, br_eqT, br_eqF, br_eqs, br_eqm, br_eqm', br_ltm, br_mlt, br_lem, br_mle, br_oiF, br_lgge, br_lgle, br_lggt, br_lglt, br_lgeq, br_zb, br_zb1, bV_s, bI_s, bL_s, zo_n, zo_s])
        have v3' : ∀ c, c ≠ 107 → c ≠ 138 → c ≠ 139 → m3.1 c = m2.1 c := fun c c1 c2 c3 => by rw [v3 c c2 c3]; simp (disch := omega) only [w_ne, w_at, wl_ne, wl_at, wc_ne, wc_at, upd_at, upd_ne, upl_at, upl_ne, cpy_in0, zn_cl, zn_add, zn_mul, zn_sub, zn_pm, br_tt, br_ff, br_ltT, br_ltF, br_leT, br_leF, br_eqT, br_eqF, br_eqs, br_eqm, br_eqm', br_ltm, br_mlt, br_lem, br_mle, br_oiF, br_lgge, br_lgle, br_lggt, br_lglt, br_lgeq, br_zb, br_zb1, bV_s, bI_s, bL_s, zo_n, zo_s]
        refine ⟨some (.int (zn 1)), m1', m3, ?_, ?_, b4 m3 v2 ?_ ?_ ?_⟩
        · rw [cS, e_C_meet_55 7 29998, zb_f, oe, zo_s]; simp (disch := omega) only [w_ne, w_at, wl_ne, wl_at, wc_ne, wc_at, upd_at, upd_ne, upl_at, upl_ne, cpy_in0, zn_cl, zn_add, zn_mul, zn_sub, zn_pm, br_tt, br_ff, br_ltT, br_ltF, br_leT, br_leF, br_eqT, br_eqF, br_eqs, br_eqm, br_eqm', br_ltm, br_mlt, br_lem, br_mle, br_oiF, br_lgge, br_lgle, br_lggt, br_lglt, br_lgeq, br_zb, br_zb1, bV_s, bI_s, bL_s, zo_n, zo_s, ku, kv]
          rw [a1, bV_s, u1, bV_s]
        · rw [rS m1' t1 n1, if_pos (Or.inr ⟨on, rfl⟩), e_M_meet_65 7 29998, b1, bV_s, k55, zb_f, oe, zo_s]; simp (disch := omega) only [w_ne, w_at, wl_ne, wl_at, wc_ne, wc_at, upd_at, upd_ne, upl_at, upl_ne, cpy_in0, zn_cl, zn_add, zn_mul, zn_sub, zn_pm, br_tt, br_ff, br_ltT, br_ltF, br_leT, br_leF, br_eqT, br_eqF, br_eqs, br_eqm, br_eqm', br_ltm, br_mlt, br_lem, br_mle, br_oiF, br_lgge, br_lgle, br_lggt, br_lglt, br_lgeq, br_zb, br_zb1, bV_s, bI_s, bL_s, zo_n, zo_s]
          exact v1
        · intro p p1 p2; exact v3' p p2 (by omega) (by omega)
        · intro i' hi; rw [v3 107 (by omega) (by omega)]; simp (disch := omega) only [w_ne, w_at, wl_ne, wl_at, wc_ne, wc_at, upd_at, upd_ne, upl_at, upl_ne, cpy_in0, zn_cl, zn_add, zn_mul, zn_sub, zn_pm, br_tt, br_ff, br_ltT, br_ltF, br_leT, br_leF, br_eqT, br_eqF, br_eqs, br_eqm, br_eqm', br_ltm, br_mlt, br_lem, br_mle, br_oiF, br_lgge, br_lgle, br_lggt, br_lglt, br_lgeq, br_zb, br_zb1, bV_s, bI_s, bL_s, zo_n, zo_s]
        · refine ⟨?_, ?_, ?_, ?_, ?_, ol, ?_, ?_, ?_, ?_, ?_⟩
          · rw [v3' 132 (by omega) (by omega) (by omega)]; exact b3.hs
          · rw [v3' 132 (by omega) (by omega) (by omega)]; exact b3.h5
          · rw [v3' 134 (by omega) (by omega) (by omega)]; exact b3.wl
          · rw [v3' 133 (by omega) (by omega) (by omega)]; exact b3.ws
          · rw [v3' 135 (by omega) (by omega) (by omega)]; exact b3.dy
          · rw [v3' 137 (by omega) (by omega) (by omega)]; exact b3.os
          · rw [v3' 136 (by omega) (by omega) (by omega)]; exact b3.hu
          · show _ = zn (q.2.2.1.eraseIdx p).length
            rw [el, v3 107 (by omega) (by omega)]; simp (disch := omega) only [w_ne, w_at, wl_ne, wl_at, wc_ne, wc_at, upd_at, upd_ne, upl_at, upl_ne, cpy_in0, zn_cl, zn_add, zn_mul, zn_sub, zn_pm, br_tt, br_ff, br_ltT, br_ltF, br_leT, br_leF, br_eqT, br_eqF, br_eqs, br_eqm, br_eqm', br_ltm, br_mlt, br_lem, br_mle, br_oiF, br_lgge, br_lgle, br_lggt, br_lglt, br_lgeq, br_zb, br_zb1, bV_s, bI_s, bL_s, zo_n, zo_s]
          · intro i hi
            have hi' : i < q.2.2.1.length - 1 := by rw [← el]; exact hi
            show _ = zn ((q.2.2.1.eraseIdx p).getD i (0, 0)).1 ∧ _ = zn ((q.2.2.1.eraseIdx p).getD i (0, 0)).2
            rw [er_at]
            by_cases e : i < p
            · rw [if_pos e, (v4 i e).1, (v4 i e).2, ← (b3.ms i (by omega)).1, ← (b3.ms i (by omega)).2]; simp (disch := omega) only [w_ne, w_at, wl_ne, wl_at, wc_ne, wc_at, upd_at, upd_ne, upl_at, upl_ne, cpy_in0, zn_cl, zn_add, zn_mul, zn_sub, zn_pm, br_tt, br_ff, br_ltT, br_ltF, br_leT, br_leF, br_eqT, br_eqF, br_eqs, br_eqm, br_eqm', br_ltm, br_mlt, br_lem, br_mle, br_oiF, br_lgge, br_lgle, br_lggt, br_lglt, br_lgeq, br_zb, br_zb1, bV_s, bI_s, bL_s, zo_n, zo_s, and_self]
            · rw [if_neg e, (v5 i (by omega) hi').1, (v5 i (by omega) hi').2, ← (b3.ms (i + 1) (by omega)).1, ← (b3.ms (i + 1) (by omega)).2]; simp (disch := omega) only [w_ne, w_at, wl_ne, wl_at, wc_ne, wc_at, upd_at, upd_ne, upl_at, upl_ne, cpy_in0, zn_cl, zn_add, zn_mul, zn_sub, zn_pm, br_tt, br_ff, br_ltT, br_ltF, br_leT, br_leF, br_eqT, br_eqF, br_eqs, br_eqm, br_eqm', br_ltm, br_mlt, br_lem, br_mle, br_oiF, br_lgge, br_lgle, br_lggt, br_lglt, br_lgeq, br_zb, br_zb1, bV_s, bI_s, bL_s, zo_n, zo_s, and_self]
          · rw [v2]; exact b3.dr
    · refine no (some (.int (zn 0))) ?_ ?_
      · rw [cS, if_neg ok]
      · rw [rS m c2.tr c2.nr, if_neg ok]
  · refine no (some (.int (zn 0))) ?_ ?_
    · rw [n_C_meet, s_are2 c.tc c.tw, bI_s, br_zb, if_neg e1]
    · rw [n_M_meet, s_isThingR c2.tr c.tw, bI_s, br_zb, s_isThingR c2.tr c.tw, bI_s, br_zb, br_eq]
      unfold is2 at e1
      rw [Bool.and_eq_true, Bool.and_eq_true, decide_eq_true_eq] at e1
      by_cases f1 : isN (T 0 0) x = true
      · rw [if_pos f1]
        by_cases f2 : isN (T 0 0) y = true
        · rw [if_pos f2]
          by_cases f3 : x = y
          · rw [if_pos f3]
          · exact absurd ⟨f1, f2, f3⟩ e1
        · rw [if_neg f2]
      · rw [if_neg f1]
