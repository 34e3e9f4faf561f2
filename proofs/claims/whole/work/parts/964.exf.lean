/-! laws' lines: a sign -/
noncomputable def SGR (q : Nat) (m11 : am_M) : am_R := (am_bI (am_c 4 y_M_rank [.int (zn q)] m11) (fun r16 m15 => am_b (am_eq r16 (zn 4)) (am_bV (am_c 4 y_M_bind [.ref 107, .int (zn 5)] m15) (fun m26 => am_bI (am_c 4 y_M_rank [.int (zn q)] m26) (fun r28 m27 => am_b (am_eq r28 (zn 4)) (am_b (am_le (m27.1 107 40) (zn 0)) (r_M_signs_217 4 29998 (zn q) m27) (am_b (am_oi ((m27.1 107 40) - (zn 1)) 96) none (am_bI (am_c 4 y_M_rank [.int (m27.1 128 (((m27.1 107 40) - (zn 1)).toNatClampNeg))] m27) (fun r30 m29 => am_b (am_eq r30 (zn 4)) (am_bI (am_c 4 y_M_wrong [.ref 107, .int (zn 1)] m29) (fun r32 m31 => am_b (am_eq r32 (zn 0)) (some (some (.int r32), m31)) (am_b (am_eq r32 (zn 1)) (some (some (.int r32), m31)) none))) (r_M_signs_217 4 29998 (zn q) m29))))) (r_M_signs_217 4 29998 (zn q) m27)))) (am_bI (am_c 4 y_M_rank [.int (zn q)] m15) (fun r18 m17 => am_bV (am_c 4 y_M_bind [.ref 107, .int r18] m17) (fun m19 => am_bI (am_c 4 y_M_rank [.int (zn q)] m19) (fun r21 m20 => am_b (am_eq r21 (zn 4)) (am_b (am_le (m20.1 107 40) (zn 0)) (r_M_signs_217 4 29998 (zn q) m20) (am_b (am_oi ((m20.1 107 40) - (zn 1)) 96) none (am_bI (am_c 4 y_M_rank [.int (m20.1 128 (((m20.1 107 40) - (zn 1)).toNatClampNeg))] m20) (fun r23 m22 => am_b (am_eq r23 (zn 4)) (am_bI (am_c 4 y_M_wrong [.ref 107, .int (zn 1)] m22) (fun r25 m24 => am_b (am_eq r25 (zn 0)) (some (some (.int r25), m24)) (am_b (am_eq r25 (zn 1)) (some (some (.int r25), m24)) none))) (r_M_signs_217 4 29998 (zn q) m22))))) (r_M_signs_217 4 29998 (zn q) m20)))))))
def opq (K : Nat) : Nat := if K = 16 then 3 else if K = 15 then 4 else K - 25
def isop (K : Nat) : Prop := K = 15 ∨ K = 16 ∨ (30 ≤ K ∧ K ≤ 39)
theorem op_ok : ∀ K, K < 40 → (K = 15 ∨ K = 16 ∨ 30 ≤ K) → 3 ≤ opq K ∧ opq K ≤ 14 ∧ wkc (opq K) = K ∧ sk_ K = rk (opq K) ∧ 1 ≤ rk (opq K) ∧ (rk (opq K) < 3 ↔ (K = 15 ∨ K = 16)) := by decide +kernel
theorem sgR {K V : Nat} {m : am_M} (hK : isop K) (h : rtk K V (m.1 107 8) (m.1 107 9)) : r_M_signs_47 4 29999 m = SGR (opq K) m := by
  have kq := kk_17 (K := K)
  have sg := sg_at (K := K)
  unfold isop at hK
  have F15 : K ≠ 16 → am_c 4 y_M_isKey [.ref 107, .int (zn 15)] m = some (some (.int (zn 0)), m) := fun e => by
    rw [isKey_R (d := 3) (by omega) h, decide_eq_false (fun z => e (kq.2.1.mp z.2))]; rfl
  have F16 : K ≠ 15 → am_c 4 y_M_isKey [.ref 107, .int (zn 16)] m = some (some (.int (zn 0)), m) := fun e => by
    rw [isKey_R (d := 3) (by omega) h, decide_eq_false (fun z => e (kq.2.2.mp z.2))]; rfl
  have S : ∀ c, c ≠ 0 ∧ c ≠ 37 ∧ c < 100 → sgc K ≠ c → am_c 4 y_M_isSign [.ref 107, .int (zn c)] m = some (some (.int (zn 0)), m) := fun c hc e => by
    rw [isSign_R (d := 3) hc h, decide_eq_false e]; rfl
  have S1 : ∀ c, c ≠ 0 ∧ c ≠ 37 ∧ c < 100 → sgc K = c → am_c 4 y_M_isSign [.ref 107, .int (zn c)] m = some (some (.int (zn 1)), m) := fun c hc e => by
    rw [isSign_R (d := 3) hc h, decide_eq_true e]; rfl
  rw [e_M_signs_47 4 29998]
  by_cases e16 : K = 16
  · rw [isKey_R (d := 3) (by omega) h, decide_eq_true ⟨by omega, kq.2.1.mpr e16⟩, bI_s, br_zb, if_pos rfl, e16]; rfl
  rw [F15 e16, bI_s, br_eqT rfl]
  by_cases e15 : K = 15
  · rw [isKey_R (d := 3) (by omega) h, decide_eq_true ⟨by omega, kq.2.2.mpr e15⟩, bI_s, br_zb, if_pos rfl, e15]; rfl
  rw [F16 e15, bI_s, br_eqT rfl]
  by_cases e35 : K ≤ 35
  · have hh : m.1 107 8 = zn 5 ∧ m.1 107 9 = zn (K - 30) := by
      rcases h with ⟨h1, h2, h3⟩ | ⟨h1, h2, h3⟩ | ⟨h1, h2, h3⟩ | ⟨h1, h2, h3⟩ | ⟨h1, h1', h2, h3⟩ | ⟨h1, h2⟩ | ⟨h1, h2⟩
      · omega
      · omega
      · omega
      · exfalso; apply h1; unfold sgc; (repeat' split) <;> omega
      · exact ⟨h2, h3⟩
      · omega
      · omega
    rw [hh.1, hh.2, br_eqT rfl, zn_add, br_eqF (by omega) (by omega) (by omega), show opq K = 5 + (K - 30) from by unfold opq; rw [if_neg e16, if_neg e15]; omega]; rfl
  · have h8 : m.1 107 8 = zn 4 := by
      rcases h with ⟨h1, h2, h3⟩ | ⟨h1, h2, h3⟩ | ⟨h1, h2, h3⟩ | ⟨h1, h2, h3⟩ | ⟨h1, h1', h2, h3⟩ | ⟨h1, h2⟩ | ⟨h1, h2⟩
      · omega
      · omega
      · omega
      · exact h2
      · omega
      · omega
      · omega
    rw [h8, br_eqF (by omega) (by omega) (by omega)]
    rcases (by omega : K = 36 ∨ K = 37 ∨ K = 38 ∨ K = 39) with e | e | e | e
    · rw [S1 43 (by omega) (sg.2.2.2.1.mpr e), bI_s, br_eqF (by omega) (by omega) (by omega), e]; rfl
    · rw [S 43 (by omega) (fun z => by have := sg.2.2.2.1.mp z; omega), bI_s, br_eqT rfl, S1 45 (by omega) (sg.2.2.2.2.1.mpr e), bI_s, br_eqF (by omega) (by omega) (by omega), e]; rfl
    · rw [S 43 (by omega) (fun z => by have := sg.2.2.2.1.mp z; omega), bI_s, br_eqT rfl, S 45 (by omega) (fun z => by have := sg.2.2.2.2.1.mp z; omega), bI_s, br_eqT rfl, S1 42 (by omega) (sg.2.2.2.2.2.1.mpr e), bI_s, br_eqF (by omega) (by omega) (by omega), e]; rfl
    · rw [S 43 (by omega) (fun z => by have := sg.2.2.2.1.mp z; omega), bI_s, br_eqT rfl, S 45 (by omega) (fun z => by have := sg.2.2.2.2.1.mp z; omega), bI_s, br_eqT rfl, S 42 (by omega) (fun z => by have := sg.2.2.2.2.2.1.mp z; omega), bI_s, br_eqT rfl, S1 47 (by omega) (sg.2.2.2.2.2.2.mpr e), bI_s, br_eqF (by omega) (by omega) (by omega), e]; rfl
theorem sgF {X : Nat → Nat} {n : Nat} {T G F : Td} {fg : Nat → Bool} {cn : Nat} {t : Tk} {m : am_M} (hK : ¬ isop t.1) (h : pR X n T G F fg cn t m) : ∃ m', r_M_signs_47 4 29999 m = some (some (.int (zn 0)), m') ∧ flR 1 t.2.2.1 m m' := by
  obtain ⟨m', f1, f2⟩ := s_failR (d := 3) (k := 1) h.k.at_
  refine ⟨m', ?_, f2⟩
  have kq := kk_17 (K := t.1)
  have sg := sg_at (K := t.1)
  unfold isop at hK
  have S : ∀ c, c ≠ 0 ∧ c ≠ 37 ∧ c < 100 → sgc t.1 ≠ c → am_c 4 y_M_isSign [.ref 107, .int (zn c)] m = some (some (.int (zn 0)), m) := fun c hc e => by
    rw [isSign_R (d := 3) hc h.k.k, decide_eq_false e]; rfl
  have h5 : ∃ x, m.1 107 8 = zn x ∧ x ≤ 6 ∧ x ≠ 5 := by
    rcases h.k.k with ⟨h1, h2, h3⟩ | ⟨h1, h2, h3⟩ | ⟨h1, h2, h3⟩ | ⟨h1, h2, h3⟩ | ⟨h1, h1', h2, h3⟩ | ⟨h1, h2⟩ | ⟨h1, h2⟩
    · exact ⟨1, h2, by omega, by omega⟩
    · exact ⟨2, h2, by omega, by omega⟩
    · exact ⟨3, h2, by omega, by omega⟩
    · exact ⟨4, h2, by omega, by omega⟩
    · omega
    · exact ⟨0, h2, by omega, by omega⟩
    · rcases h2 with h2 | ⟨h2, _⟩
      · exact ⟨6, h2, by omega, by omega⟩
      · exact ⟨4, h2, by omega, by omega⟩
  obtain ⟨x, x1, x2, x3⟩ := h5
  rw [e_M_signs_47 4 29998, isKey_R (d := 3) (by omega) h.k.k, decide_eq_false (fun z => by have := kq.2.1.mp z.2; omega), bI_s, br_zb, if_neg (by simp), isKey_R (d := 3) (by omega) h.k.k, decide_eq_false (fun z => by have := kq.2.2.mp z.2; omega), bI_s, br_zb, if_neg (by simp), x1, br_eqF x3 (by omega) (by omega), S 43 (by omega) (fun z => by have := sg.2.2.2.1.mp z; omega), bI_s, br_eqT rfl, S 45 (by omega) (fun z => by have := sg.2.2.2.2.1.mp z; omega), bI_s, br_eqT rfl, S 42 (by omega) (fun z => by have := sg.2.2.2.2.2.1.mp z; omega), bI_s, br_eqT rfl, S 47 (by omega) (fun z => by have := sg.2.2.2.2.2.2.mp z; omega), bI_s, br_eqT rfl, f1, bI_s, br_eqT rfl]
def hd4 : List Nat → Nat
  | [] => 0
  | q :: _ => rk q
theorem b0F {q : Nat} {w : List Nat} (h : wok (q :: w)) (hr : rk q < 1) : q = 0 := by
  rcases h q (List.mem_cons_self ..) with e | e
  · exact e
  · exfalso; revert hr; unfold rk; (repeat' split) <;> omega
theorem sg_stp {X : Nat → Nat} {n p : Nat} {T G F : Td} {fg : Nat → Bool} {cn fr : Nat} {w s : List Nat} {nt : Bool} (hp : p ≤ n) (I : eI fr G F cn w s false) (gw : gW G F) (hcn : cn ≤ 64) : stp X n T G F fg cn (tok X n p) fr w s false nt (am_c 3 y_Reader_takeSign [.ref 1]) (am_c 5 y_M_signs [.ref 107]) := by
  have a1 := tok_at (X := X) hp
  have v1 := tok_V (X := X) hp
  have hlen := len_pn w
  have io8 := I.o8
  have icn := I.cn
  have b1' : b01 true = 0 := rfl
  have b0' : b01 false = 1 := rfl
  have sg := sg_at (K := (tok X n p).1)
  by_cases g29 : (tok X n p).1 = 29 ∧ 0 < pr_ w
  · obtain ⟨g29, gp⟩ := g29
    obtain ⟨w', s', G', F', j1, j2, j3, j4, j5, j6, j7⟩ := bnd (X := X) (n := n) (T := T) (fg := fg) (t := tok X n p) (nt := nt) (dc := 0) (dr := 2) (x := 1) (by omega) (by omega) hcn w s G F I gw
    obtain ⟨v, rfl⟩ : ∃ v, w' = 0 :: v := by
      rcases j5 with e | ⟨q, v, e, er⟩
      · rw [e, pr_] at j4; omega
      · subst e
        exact ⟨v, by rw [b0F j1.wk er]⟩
    have k1 := j1.o8; have k2 := j1.cn; have k3 := j1.sl
    rw [pr_, if_pos rfl] at k1 j4
    rw [nb_, if_pos rfl] at k2
    rw [bi_, if_pos (by omega)] at k3
    have hlv := len_pn v
    refine Or.inr ⟨by omega, G', F', cn, v, s', false, nt, ⟨fun q hq => j1.wk q (List.mem_cons_of_mem _ hq), by omega, by omega, by omega, j1.fk, j1.tp, j1.ri⟩, j2, hcn, j3, fun m h c => ?_, fun m h c => ?_⟩
    · obtain ⟨m1, e1, e2, e3, e4⟩ := j6 (29999 + 1) m (by omega) h c
      have e5 := (e2.x (c := 1) (j := 3) (x := zn v.length) (by omega)).x (c := 1) (j := 5) (x := zn (pr_ v)) (by omega)
      refine ⟨_, ?_, e5, ⟨by simp (disch := omega) only [w_ne, w_at, wl_ne, wl_at, wc_ne, wc_at, upd_at, upd_ne, upl_at, upl_ne, cpy_in0, zn_cl, zn_add, zn_mul, zn_sub, zn_pm, br_tt, br_ff, br_ltT, br_ltF, br_leT, br_leF, br_eqT, br_eqF, br_eqs, br_eqm, br_eqm', br_ltm, br_mlt, br_lem, br_mle, br_oiF, br_lgge, br_lgle, br_lggt, br_lglt, br_lgeq, br_zb, br_zb1, bV_s, bI_s, bL_s, zo_n, zo_s], skC_w e3.s.2 (fun i hi => by simp (disch := omega) only [w_ne, w_at, wl_ne, wl_at, wc_ne, wc_at, upd_at, upd_ne, upl_at, upl_ne, cpy_in0, zn_cl, zn_add, zn_mul, zn_sub, zn_pm, br_tt, br_ff, br_ltT, br_ltF, br_leT, br_leF, br_eqT, br_eqF, br_eqs, br_eqm, br_eqm', br_ltm, br_mlt, br_lem, br_mle, br_oiF, br_lgge, br_lgle, br_lggt, br_lglt, br_lgeq, br_zb, br_zb1, bV_s, bI_s, bL_s, zo_n, zo_s]), by simp (disch := omega) only [w_ne, w_at, wl_ne, wl_at, wc_ne, wc_at, upd_at, upd_ne, upl_at, upl_ne, cpy_in0, zn_cl, zn_add, zn_mul, zn_sub, zn_pm, br_tt, br_ff, br_ltT, br_ltF, br_leT, br_leF, br_eqT, br_eqF, br_eqs, br_eqm, br_eqm', br_ltm, br_mlt, br_lem, br_mle, br_oiF, br_lgge, br_lgle, br_lggt, br_lglt, br_lgeq, br_zb, br_zb1, bV_s, bI_s, bL_s, zo_n, zo_s], by simp (disch := omega) only [w_ne, w_at, wl_ne, wl_at, wc_ne, wc_at, upd_at, upd_ne, upl_at, upl_ne, cpy_in0, zn_cl, zn_add, zn_mul, zn_sub, zn_pm, br_tt, br_ff, br_ltT, br_ltF, br_leT, br_leF, br_eqT, br_eqF, br_eqs, br_eqm, br_eqm', br_ltm, br_mlt, br_lem, br_mle, br_oiF, br_lgge, br_lgle, br_lggt, br_lglt, br_lgeq, br_zb, br_zb1, bV_s, bI_s, bL_s, zo_n, zo_s, e3.e], by simp (disch := omega) only [w_ne, w_at, wl_ne, wl_at, wc_ne, wc_at, upd_at, upd_ne, upl_at, upl_ne, cpy_in0, zn_cl, zn_add, zn_mul, zn_sub, zn_pm, br_tt, br_ff, br_ltT, br_ltF, br_leT, br_leF, br_eqT, br_eqF, br_eqs, br_eqm, br_eqm', br_ltm, br_mlt, br_lem, br_mle, br_oiF, br_lgge, br_lgle, br_lggt, br_lglt, br_lgeq, br_zb, br_zb1, bV_s, bI_s, bL_s, zo_n, zo_s, e3.n]⟩, ?_⟩
      · have hl : m1.1 1 3 = zn (v.length + 1) := e3.l
        have ho : m1.1 1 5 = zn (pr_ v + 1) := e3.o
        rw [n_Reader_takeSign, h.k.k, br_eqT g29, c.o, br_leF (by omega) (by omega), n_Reader_putWaiting, e1, bV_s, hl, ho, zn_sub (by omega), zn_sub (by omega), Nat.add_sub_cancel, Nat.add_sub_cancel, zn_max (by omega) (by omega), Nat.max_eq_right (by omega)]
      · exact frC_tr e4 (frC_tr (frC_w (c := 1) (j := 3) (x := zn v.length) (by omega)) (frC_w (by omega)))
    · obtain ⟨m1, e1, e2, e3, e4⟩ := j7 (29999 + 1) m none none none (by omega) h c
      have e5 := (e2.x (c := 107) (j := 40) (x := zn v.length) (by omega)).x (c := 107) (j := 42) (x := zn (pr_ v)) (by omega)
      obtain ⟨m3, c1, c2, c3⟩ := adv_R (d := 2) e5 a1.2.1
      refine ⟨m3, ?_, c2, eR_k ⟨by simp (disch := omega) only [w_ne, w_at, wl_ne, wl_at, wc_ne, wc_at, upd_at, upd_ne, upl_at, upl_ne, cpy_in0, zn_cl, zn_add, zn_mul, zn_sub, zn_pm, br_tt, br_ff, br_ltT, br_ltF, br_leT, br_leF, br_eqT, br_eqF, br_eqs, br_eqm, br_eqm', br_ltm, br_mlt, br_lem, br_mle, br_oiF, br_lgge, br_lgle, br_lggt, br_lglt, br_lgeq, br_zb, br_zb1, bV_s, bI_s, bL_s, zo_n, zo_s], skR_w e3.s.2 (fun i hi => by simp (disch := omega) only [w_ne, w_at, wl_ne, wl_at, wc_ne, wc_at, upd_at, upd_ne, upl_at, upl_ne, cpy_in0, zn_cl, zn_add, zn_mul, zn_sub, zn_pm, br_tt, br_ff, br_ltT, br_ltF, br_leT, br_leF, br_eqT, br_eqF, br_eqs, br_eqm, br_eqm', br_ltm, br_mlt, br_lem, br_mle, br_oiF, br_lgge, br_lgle, br_lggt, br_lglt, br_lgeq, br_zb, br_zb1, bV_s, bI_s, bL_s, zo_n, zo_s]), by simp (disch := omega) only [w_ne, w_at, wl_ne, wl_at, wc_ne, wc_at, upd_at, upd_ne, upl_at, upl_ne, cpy_in0, zn_cl, zn_add, zn_mul, zn_sub, zn_pm, br_tt, br_ff, br_ltT, br_ltF, br_leT, br_leF, br_eqT, br_eqF, br_eqs, br_eqm, br_eqm', br_ltm, br_mlt, br_lem, br_mle, br_oiF, br_lgge, br_lgle, br_lggt, br_lglt, br_lgeq, br_zb, br_zb1, bV_s, bI_s, bL_s, zo_n, zo_s, e3.hl], hdR_w e3.h (fun i hi => by simp (disch := omega) only [w_ne, w_at, wl_ne, wl_at, wc_ne, wc_at, upd_at, upd_ne, upl_at, upl_ne, cpy_in0, zn_cl, zn_add, zn_mul, zn_sub, zn_pm, br_tt, br_ff, br_ltT, br_ltF, br_leT, br_leF, br_eqT, br_eqF, br_eqs, br_eqm, br_eqm', br_ltm, br_mlt, br_lem, br_mle, br_oiF, br_lgge, br_lgle, br_lggt, br_lglt, br_lgeq, br_zb, br_zb1, bV_s, bI_s, bL_s, zo_n, zo_s]), by simp (disch := omega) only [w_ne, w_at, wl_ne, wl_at, wc_ne, wc_at, upd_at, upd_ne, upl_at, upl_ne, cpy_in0, zn_cl, zn_add, zn_mul, zn_sub, zn_pm, br_tt, br_ff, br_ltT, br_ltF, br_leT, br_leF, br_eqT, br_eqF, br_eqs, br_eqm, br_eqm', br_ltm, br_mlt, br_lem, br_mle, br_oiF, br_lgge, br_lgle, br_lggt, br_lglt, br_lgeq, br_zb, br_zb1, bV_s, bI_s, bL_s, zo_n, zo_s], by simp (disch := omega) only [w_ne, w_at, wl_ne, wl_at, wc_ne, wc_at, upd_at, upd_ne, upl_at, upl_ne, cpy_in0, zn_cl, zn_add, zn_mul, zn_sub, zn_pm, br_tt, br_ff, br_ltT, br_ltF, br_leT, br_leF, br_eqT, br_eqF, br_eqs, br_eqm, br_eqm', br_ltm, br_mlt, br_lem, br_mle, br_oiF, br_lgge, br_lgle, br_lggt, br_lglt, br_lgeq, br_zb, br_zb1, bV_s, bI_s, bL_s, zo_n, zo_s, e3.e], by simp (disch := omega) only [w_ne, w_at, wl_ne, wl_at, wc_ne, wc_at, upd_at, upd_ne, upl_at, upl_ne, cpy_in0, zn_cl, zn_add, zn_mul, zn_sub, zn_pm, br_tt, br_ff, br_ltT, br_ltF, br_leT, br_leF, br_eqT, br_eqF, br_eqs, br_eqm, br_eqm', br_ltm, br_mlt, br_lem, br_mle, br_oiF, br_lgge, br_lgle, br_lggt, br_lglt, br_lgeq, br_zb, br_zb1, bV_s, bI_s, bL_s, zo_n, zo_s, e3.n]⟩ c3, ?_⟩
      · have hl : m1.1 107 40 = zn (v.length + 1) := e3.l
        have ho : m1.1 107 42 = zn (pr_ v + 1) := e3.o
        rw [n_M_signs, isSign_R (d := 3) (by omega) h.k.k, decide_eq_true (sg.2.2.1.mpr g29), bI_s, br_zb, if_pos rfl, c.o, br_leF (by omega) (by omega), n_M_bind, e1, bV_s, hl, ho, zn_sub (by omega), zn_sub (by omega), Nat.add_sub_cancel, Nat.add_sub_cancel, c1, bV_s]
      · exact frR_tr e4 (frR_tr (frR_w (c := 107) (j := 40) (x := zn v.length) (by unfold wokR; omega)) (frR_tr (frR_w (c := 107) (j := 42) (x := zn (pr_ v)) (by unfold wokR; omega)) c3.R))
  have pC52 : ∀ {m : am_M}, pC X n T G F fg cn (tok X n p) m → eC w false nt m → am_c 3 y_Reader_takeSign [.ref 1] m = r_Reader_takeSign_52 2 29999 (zn (tok X n p).1) m := fun h c => by
    rw [n_Reader_takeSign, h.k.k]
    by_cases g : (tok X n p).1 = 29
    · rw [br_eqT g, c.o, br_leT (by omega) (by omega)]
    · rw [br_eqF g (by omega) (by omega)]
  have pR47 : ∀ {m : am_M}, pR X n T G F fg cn (tok X n p) m → eR w s false nt m → am_c 5 y_M_signs [.ref 107] m = r_M_signs_47 4 29999 m := fun h c => by
    rw [n_M_signs, isSign_R (d := 3) (by omega) h.k.k, bI_s, br_zb]
    by_cases g : (tok X n p).1 = 29
    · rw [decide_eq_true (sg.2.2.1.mpr g), if_pos rfl, c.o, br_leT (by omega) (by omega)]
    · rw [decide_eq_false (fun z => g (sg.2.2.1.mp z)), if_neg (by simp)]
  by_cases gop : isop (tok X n p).1
  · have gop' := gop
    unfold isop at gop'
    obtain ⟨q3, q14, qw, qs, qr, qn⟩ := op_ok (tok X n p).1 (by omega) (by omega)
    have r6 := rk_le (opq (tok X n p).1)
    generalize hq : opq (tok X n p).1 = q at *
    generalize hx : (if rk q = 4 then 5 else rk q) = x
    have hx1 : 1 ≤ x := by rw [← hx]; split <;> omega
    have hx6 : x ≤ 6 := by rw [← hx]; split <;> omega
    obtain ⟨w', s', G', F', j1, j2, j3, j4, j5, j6, j7⟩ := bnd (X := X) (n := n) (T := T) (fg := fg) (t := tok X n p) (nt := nt) (dc := 0) (dr := 2) (x := x) hx1 hx6 hcn w s G F I gw
    have k1 := j1.o8; have k2 := j1.cn; have k3 := j1.sl
    rw [b0'] at k3
    have hl' := len_pn w'
    have hstr : ∀ {m : am_M}, am_c 2 y_Reader_strengthOf [.int (zn (tok X n p).1)] m = some (some (.int (zn (rk q))), m) := by
      intro m; rw [s_strg, strg_k _ v1.1, qs]
    have n17 : (tok X n p).1 ≠ 17 := by omega
    -- what comes after binding
    have afC : ∀ {m : am_M}, pC X n T G F fg cn (tok X n p) m → eC w false nt m → ∃ m1 : am_M, pC X n T G' F' fg cn (tok X n p) m1 ∧ eC w' false nt m1 ∧ frC m m1 ∧ am_c 3 y_Reader_takeSign [.ref 1] m = (if rk q = 4 ∧ hd4 w' = 4 then am_bI (am_c 2 y_Reader_fail [.ref 1, .int (zn 1)] m1) (fun r10 m9 => am_b (am_eq r10 (zn 0)) (some (some (.int r10), m9)) (am_b (am_eq r10 (zn 1)) (some (some (.int r10), m9)) none)) else r_Reader_takeSign_134 2 29998 (zn (tok X n p).1) (zn (rk q)) (if rk q = 4 then zn 1 else zn 0) m1) := by
      intro m h c
      obtain ⟨m1, e1, e2, e3, e4⟩ := j6 (29999 + 1) m (by omega) h c
      refine ⟨m1, e2, e3, e4, ?_⟩
      rw [pC52 h c, e_Reader_takeSign_52 2 29998, hstr, bI_s, br_eqF (by omega) (by omega) (by omega), br_eqF n17 (by omega) (by omega)]
      by_cases g4 : rk q = 4
      · rw [if_pos g4] at hx
        rw [br_eqT g4, g4, zn_add, n_Reader_putWaiting, show zn (4 + 1) = zn x from by rw [← hx], e1, bV_s]
        cases w' with
        | nil =>
          have hl : m1.1 1 3 = zn 0 := e3.l
          rw [hl, br_leT (by omega) (by omega), if_neg (show ¬(4 = 4 ∧ hd4 ([] : List Nat) = 4) from by decide), if_pos rfl]
        | cons q' v =>
          have hl : m1.1 1 3 = zn (v.length + 1) := e3.l
          have hq' := j1.wk q' (List.mem_cons_self ..)
          have r6' := rk_le q'
          rw [List.length_cons] at hl'
          rw [hl, br_leF (by omega) (by omega), zn_sub (by omega), Nat.add_sub_cancel, br_oiF (by omega) (by omega), zn_cl (by omega), e3.s.1, s_strg, strg_q q' (by omega) (by omega), bI_s]
          by_cases g5 : rk q' = 4
          · rw [br_eqT g5, if_pos (show 4 = 4 ∧ hd4 (q' :: v) = 4 from ⟨rfl, g5⟩)]
          · rw [br_eqF g5 (by omega) (by omega), if_neg (show ¬(4 = 4 ∧ hd4 (q' :: v) = 4) from fun z => g5 z.2), if_pos rfl]
      · rw [if_neg g4] at hx
        rw [br_eqF g4 (by omega) (by omega), n_Reader_putWaiting, hx, e1, bV_s, if_neg (fun z => by omega), if_neg (by omega)]
    have afR : ∀ {m : am_M}, pR X n T G F fg cn (tok X n p) m → eR w s false nt m → ∃ m1 : am_M, pR X n T G' F' fg cn (tok X n p) m1 ∧ eR w' s' false nt m1 ∧ frR m m1 ∧ am_c 5 y_M_signs [.ref 107] m = (if rk q = 4 ∧ hd4 w' = 4 then am_bI (am_c 4 y_M_wrong [.ref 107, .int (zn 1)] m1) (fun r10 m9 => am_b (am_eq r10 (zn 0)) (some (some (.int r10), m9)) (am_b (am_eq r10 (zn 1)) (some (some (.int r10), m9)) none)) else r_M_signs_217 4 29998 (zn q) m1) := by
      intro m h c
      obtain ⟨m1, e1, e2, e3, e4⟩ := j7 (29999 + 1) m none none none (by omega) h c
      refine ⟨m1, e2, e3, e4, ?_⟩
      rw [pR47 h c, sgR gop h.k.k, hq]
      unfold SGR
      rw [s_rank (d := 3) (by omega), bI_s]
      by_cases g4 : rk q = 4
      · rw [if_pos g4] at hx
        rw [br_eqT g4, n_M_bind, hx, e1, bV_s, s_rank (d := 3) (by omega), bI_s, br_eqT g4]
        cases w' with
        | nil =>
          have hl : m1.1 107 40 = zn 0 := e3.l
          rw [hl, br_leT (by omega) (by omega), if_neg (show ¬(rk q = 4 ∧ hd4 ([] : List Nat) = 4) from fun z => absurd z.2 (by decide))]
        | cons q' v =>
          have hl : m1.1 107 40 = zn (v.length + 1) := e3.l
          have hq' := j1.wk q' (List.mem_cons_self ..)
          have r6' := rk_le q'
          rw [List.length_cons] at hl'
          rw [hl, br_leF (by omega) (by omega), zn_sub (by omega), Nat.add_sub_cancel, br_oiF (by omega) (by omega), zn_cl (by omega), e3.s.1, s_rank (d := 3) (by omega), bI_s]
          by_cases g5 : rk q' = 4
          · rw [br_eqT g5, if_pos (show rk q = 4 ∧ hd4 (q' :: v) = 4 from ⟨g4, g5⟩)]
          · rw [br_eqF g5 (by omega) (by omega), if_neg (show ¬(rk q = 4 ∧ hd4 (q' :: v) = 4) from fun z => g5 z.2)]
      · rw [if_neg g4] at hx
        rw [br_eqF g4 (by omega) (by omega), s_rank (d := 3) (by omega), bI_s, n_M_bind, hx, e1, bV_s, s_rank (d := 3) (by omega), bI_s, hx, br_eqF (by omega) (by omega) (by omega), if_neg (fun z => by omega)]
    by_cases gf : rk q = 4 ∧ hd4 w' = 4
    · refine Or.inl ⟨1, by omega, by omega, fun m h c => ?_, fun m h c => ?_⟩
      · obtain ⟨m1, e1, e2, e3, e4⟩ := afC h c
        obtain ⟨m2, f1, f2⟩ := s_failC (d := 1) (k := 1) e1.k.at_
        exact ⟨m2, by rw [e4, if_pos gf, f1, bI_s, br_eqT rfl], flC_tr e3 f2⟩
      · obtain ⟨m1, e1, e2, e3, e4⟩ := afR h c
        obtain ⟨m2, f1, f2⟩ := s_failR (d := 3) (k := 1) e1.k.at_
        exact ⟨m2, by rw [e4, if_pos gf, f1, bI_s, br_eqT rfl], flR_tr e3 f2⟩
    -- the sign waits
    have ntd : (decide (rk q < 3) = true ∧ rk q < 3 ∧ ((tok X n p).1 = 15 ∨ (tok X n p).1 = 16)) ∨ (decide (rk q < 3) = false ∧ 3 ≤ rk q ∧ (tok X n p).1 ≠ 15 ∧ (tok X n p).1 ≠ 16) := by
      by_cases z : rk q < 3
      · exact Or.inl ⟨decide_eq_true z, z, qn.mp z⟩
      · exact Or.inr ⟨decide_eq_false z, by omega, fun e => z (qn.mpr (Or.inl e)), fun e => z (qn.mpr (Or.inr e))⟩
    have p134 : ∀ (m : am_M) (y : Int32), r_Reader_takeSign_134 2 29998 (zn (tok X n p).1) (zn (rk q)) y m = am_bV (am_c 2 y_Reader_hold [.ref 1, .int (zn (tok X n p).1)] (am_w (am_w m.1 1 6 (zn 1)) 1 7 (zb (decide (rk q < 3))), m.2)) (fun m1 => am_bI (am_c 2 y_Reader_countKnot [.ref 1] m1) (fun r3 m2 => am_b (am_eq r3 (zn 0)) (some (some (.int r3), m2)) (am_b (am_eq r3 (zn 1)) (some (some (.int r3), m2)) none))) := by
      intro m y
      rw [e_Reader_takeSign_134 2 29997]
      rcases ntd with ⟨z1, z2, z3⟩ | ⟨z1, z2, z3, z4⟩
      · rw [z1]
        by_cases e : (tok X n p).1 = 16
        · rw [br_eqT e]; rfl
        · rw [br_eqF e (by omega) (by omega), br_eqT (by omega)]; rfl
      · rw [z1, br_eqF z4 (by omega) (by omega), br_eqF z3 (by omega) (by omega)]; rfl
    by_cases g64 : cn = 64
    · refine Or.inl ⟨2, by omega, by omega, fun m h c => ?_, fun m h c => ?_⟩
      · obtain ⟨m1, e1, e2, e3, e4⟩ := afC h c
        obtain ⟨m2, f1, f2, f3, f4⟩ := holdC_f (d := 1) (K := (tok X n p).1) (L := w'.length) (m := (am_w (am_w m1.1 1 6 (zn 1)) 1 7 (zb (decide (rk q < 3))), m1.2)) (by simp (disch := omega) only [w_ne, w_at, wl_ne, wl_at, wc_ne, wc_at, upd_at, upd_ne, upl_at, upl_ne, cpy_in0, zn_cl, zn_add, zn_mul, zn_sub, zn_pm, br_tt, br_ff, br_ltT, br_ltF, br_leT, br_leF, br_eqT, br_eqF, br_eqs, br_eqm, br_eqm', br_ltm, br_mlt, br_lem, br_mle, br_oiF, br_lgge, br_lgle, br_lggt, br_lglt, br_lgeq, br_zb, br_zb1, bV_s, bI_s, bL_s, zo_n, zo_s, e2.l]) (by omega)
        obtain ⟨m3, g1, g2⟩ := cntC_f (d := 0) (m := m2) (a := (tok X n p).2.2.1) (by rw [f3]; simp (disch := omega) only [w_ne, w_at, wl_ne, wl_at, wc_ne, wc_at, upd_at, upd_ne, upl_at, upl_ne, cpy_in0, zn_cl, zn_add, zn_mul, zn_sub, zn_pm, br_tt, br_ff, br_ltT, br_ltF, br_leT, br_leF, br_eqT, br_eqF, br_eqs, br_eqm, br_eqm', br_ltm, br_mlt, br_lem, br_mle, br_oiF, br_lgge, br_lgle, br_lggt, br_lglt, br_lgeq, br_zb, br_zb1, bV_s, bI_s, bL_s, zo_n, zo_s, e1.cn, g64]) (by rw [f4]; simp (disch := omega) only [w_ne, w_at, wl_ne, wl_at, wc_ne, wc_at, upd_at, upd_ne, upl_at, upl_ne, cpy_in0, zn_cl, zn_add, zn_mul, zn_sub, zn_pm, br_tt, br_ff, br_ltT, br_ltF, br_leT, br_leF, br_eqT, br_eqF, br_eqs, br_eqm, br_eqm', br_ltm, br_mlt, br_lem, br_mle, br_oiF, br_lgge, br_lgle, br_lggt, br_lglt, br_lgeq, br_zb, br_zb1, bV_s, bI_s, bL_s, zo_n, zo_s, e1.k.at_])
        exact ⟨m3, by rw [e4, if_neg gf, p134, f1, bV_s, g1, bI_s, br_eqT rfl], flC_tr (frC_tr e3 (frC_tr (frC_tr (frC_w (c := 1) (j := 6) (x := zn 1) (by omega)) (frC_w (by omega))) f2)) g2⟩
      · obtain ⟨m1, e1, e2, e3, e4⟩ := afR h c
        obtain ⟨m2, f1, f2⟩ := cntR_f (d := 2) (m := m1) (a := (tok X n p).2.2.1) (by rw [e1.cn, g64]) e1.k.at_
        exact ⟨m2, by rw [e4, if_neg gf, e_M_signs_217 4 29997, f1, bI_s, br_eqT rfl], flR_tr e3 f2⟩
    · refine Or.inr ⟨by omega, G', F', cn + 1, q :: w', s', true, decide (rk q < 3), ⟨fun z hz => ?_, by rw [pr_, if_neg (by omega)]; omega, by rw [nb_, if_neg (by omega)]; omega, by rw [bi_, if_neg (by omega), b1']; omega, j1.fk, j1.tp, j1.ri⟩, j2, by omega, j3, fun m h c => ?_, fun m h c => ?_⟩
      · rcases List.mem_cons.mp hz with e | e
        · exact Or.inr (by omega)
        · exact j1.wk z e
      · obtain ⟨m1, e1, e2, e3, e4⟩ := afC h c
        have h1 := ((((e1.x (c := 1) (j := 6) (x := zn 1) (by omega)).x (c := 1) (j := 7) (x := zb (decide (rk q < 3))) (by omega)).x (c := 24) (j := w'.length) (x := zn (tok X n p).1) (by omega)).x (c := 1) (j := 3) (x := zn (w'.length + 1)) (by omega)).cnt
        refine ⟨_, ?_, h1, ⟨by simp (disch := omega) only [w_ne, w_at, wl_ne, wl_at, wc_ne, wc_at, upd_at, upd_ne, upl_at, upl_ne, cpy_in0, zn_cl, zn_add, zn_mul, zn_sub, zn_pm, br_tt, br_ff, br_ltT, br_ltF, br_leT, br_leF, br_eqT, br_eqF, br_eqs, br_eqm, br_eqm', br_ltm, br_mlt, br_lem, br_mle, br_oiF, br_lgge, br_lgle, br_lggt, br_lglt, br_lgeq, br_zb, br_zb1, bV_s, bI_s, bL_s, zo_n, zo_s]; rfl, ⟨by simp (disch := omega) only [w_ne, w_at, wl_ne, wl_at, wc_ne, wc_at, upd_at, upd_ne, upl_at, upl_ne, cpy_in0, zn_cl, zn_add, zn_mul, zn_sub, zn_pm, br_tt, br_ff, br_ltT, br_ltF, br_leT, br_leF, br_eqT, br_eqF, br_eqs, br_eqm, br_eqm', br_ltm, br_mlt, br_lem, br_mle, br_oiF, br_lgge, br_lgle, br_lggt, br_lglt, br_lgeq, br_zb, br_zb1, bV_s, bI_s, bL_s, zo_n, zo_s, qw], skC_w e2.s (fun i hi => by simp (disch := omega) only [w_ne, w_at, wl_ne, wl_at, wc_ne, wc_at, upd_at, upd_ne, upl_at, upl_ne, cpy_in0, zn_cl, zn_add, zn_mul, zn_sub, zn_pm, br_tt, br_ff, br_ltT, br_ltF, br_leT, br_leF, br_eqT, br_eqF, br_eqs, br_eqm, br_eqm', br_ltm, br_mlt, br_lem, br_mle, br_oiF, br_lgge, br_lgle, br_lggt, br_lglt, br_lgeq, br_zb, br_zb1, bV_s, bI_s, bL_s, zo_n, zo_s])⟩, by simp (disch := omega) only [w_ne, w_at, wl_ne, wl_at, wc_ne, wc_at, upd_at, upd_ne, upl_at, upl_ne, cpy_in0, zn_cl, zn_add, zn_mul, zn_sub, zn_pm, br_tt, br_ff, br_ltT, br_ltF, br_leT, br_leF, br_eqT, br_eqF, br_eqs, br_eqm, br_eqm', br_ltm, br_mlt, br_lem, br_mle, br_oiF, br_lgge, br_lgle, br_lggt, br_lglt, br_lgeq, br_zb, br_zb1, bV_s, bI_s, bL_s, zo_n, zo_s, e2.o]; rw [pr_, if_neg (by omega)]; rfl, by simp (disch := omega) only [w_ne, w_at, wl_ne, wl_at, wc_ne, wc_at, upd_at, upd_ne, upl_at, upl_ne, cpy_in0, zn_cl, zn_add, zn_mul, zn_sub, zn_pm, br_tt, br_ff, br_ltT, br_ltF, br_leT, br_leF, br_eqT, br_eqF, br_eqs, br_eqm, br_eqm', br_ltm, br_mlt, br_lem, br_mle, br_oiF, br_lgge, br_lgle, br_lggt, br_lglt, br_lgeq, br_zb, br_zb1, bV_s, bI_s, bL_s, zo_n, zo_s]; rfl, by simp (disch := omega) only [w_ne, w_at, wl_ne, wl_at, wc_ne, wc_at, upd_at, upd_ne, upl_at, upl_ne, cpy_in0, zn_cl, zn_add, zn_mul, zn_sub, zn_pm, br_tt, br_ff, br_ltT, br_ltF, br_leT, br_leF, br_eqT, br_eqF, br_eqs, br_eqm, br_eqm', br_ltm, br_mlt, br_lem, br_mle, br_oiF, br_lgge, br_lgle, br_lggt, br_lglt, br_lgeq, br_zb, br_zb1, bV_s, bI_s, bL_s, zo_n, zo_s]⟩, ?_⟩
        · rw [e4, if_neg gf, p134, holdC (d := 1) (L := w'.length) (by simp (disch := omega) only [w_ne, w_at, wl_ne, wl_at, wc_ne, wc_at, upd_at, upd_ne, upl_at, upl_ne, cpy_in0, zn_cl, zn_add, zn_mul, zn_sub, zn_pm, br_tt, br_ff, br_ltT, br_ltF, br_leT, br_leF, br_eqT, br_eqF, br_eqs, br_eqm, br_eqm', br_ltm, br_mlt, br_lem, br_mle, br_oiF, br_lgge, br_lgle, br_lggt, br_lglt, br_lgeq, br_zb, br_zb1, bV_s, bI_s, bL_s, zo_n, zo_s, e2.l]) (by omega), bV_s, cntC_o (d := 1) (cn := cn) (by simp (disch := omega) only [w_ne, w_at, wl_ne, wl_at, wc_ne, wc_at, upd_at, upd_ne, upl_at, upl_ne, cpy_in0, zn_cl, zn_add, zn_mul, zn_sub, zn_pm, br_tt, br_ff, br_ltT, br_ltF, br_leT, br_leF, br_eqT, br_eqF, br_eqs, br_eqm, br_eqm', br_ltm, br_mlt, br_lem, br_mle, br_oiF, br_lgge, br_lgle, br_lggt, br_lglt, br_lgeq, br_zb, br_zb1, bV_s, bI_s, bL_s, zo_n, zo_s, e1.cn]) (by omega), bI_s, br_eqF (by omega) (by omega) (by omega), br_eqT rfl]
        · exact frC_tr e3 (frC_tr (frC_w (c := 1) (j := 6) (x := zn 1) (by omega)) (frC_tr (frC_w (c := 1) (j := 7) (x := zb (decide (rk q < 3))) (by omega)) (frC_tr (frC_w (c := 24) (j := w'.length) (x := zn (tok X n p).1) (by omega)) (frC_tr (frC_w (c := 1) (j := 3) (x := zn (w'.length + 1)) (by omega)) (frC_w (by omega))))))
      · obtain ⟨m1, e1, e2, e3, e4⟩ := afR h c
        have h1 := (((e1.cnt.x (c := 128) (j := w'.length) (x := zn q) (by omega)).x (c := 107) (j := 40) (x := zn (w'.length + 1)) (by omega)).x (c := 107) (j := 44) (x := zn 1) (by omega)).x (c := 107) (j := 45) (x := zb (decide (rk q < 3))) (by omega)
        obtain ⟨m3, c1, c2, c3⟩ := adv_R (d := 2) h1 a1.2.1
        refine ⟨m3, ?_, c2, eR_k ⟨by simp (disch := omega) only [w_ne, w_at, wl_ne, wl_at, wc_ne, wc_at, upd_at, upd_ne, upl_at, upl_ne, cpy_in0, zn_cl, zn_add, zn_mul, zn_sub, zn_pm, br_tt, br_ff, br_ltT, br_ltF, br_leT, br_leF, br_eqT, br_eqF, br_eqs, br_eqm, br_eqm', br_ltm, br_mlt, br_lem, br_mle, br_oiF, br_lgge, br_lgle, br_lggt, br_lglt, br_lgeq, br_zb, br_zb1, bV_s, bI_s, bL_s, zo_n, zo_s]; rfl, ⟨by simp (disch := omega) only [w_ne, w_at, wl_ne, wl_at, wc_ne, wc_at, upd_at, upd_ne, upl_at, upl_ne, cpy_in0, zn_cl, zn_add, zn_mul, zn_sub, zn_pm, br_tt, br_ff, br_ltT, br_ltF, br_leT, br_leF, br_eqT, br_eqF, br_eqs, br_eqm, br_eqm', br_ltm, br_mlt, br_lem, br_mle, br_oiF, br_lgge, br_lgle, br_lggt, br_lglt, br_lgeq, br_zb, br_zb1, bV_s, bI_s, bL_s, zo_n, zo_s], skR_w e2.s (fun i hi => by simp (disch := omega) only [w_ne, w_at, wl_ne, wl_at, wc_ne, wc_at, upd_at, upd_ne, upl_at, upl_ne, cpy_in0, zn_cl, zn_add, zn_mul, zn_sub, zn_pm, br_tt, br_ff, br_ltT, br_ltF, br_leT, br_leF, br_eqT, br_eqF, br_eqs, br_eqm, br_eqm', br_ltm, br_mlt, br_lem, br_mle, br_oiF, br_lgge, br_lgle, br_lggt, br_lglt, br_lgeq, br_zb, br_zb1, bV_s, bI_s, bL_s, zo_n, zo_s])⟩, by simp (disch := omega) only [w_ne, w_at, wl_ne, wl_at, wc_ne, wc_at, upd_at, upd_ne, upl_at, upl_ne, cpy_in0, zn_cl, zn_add, zn_mul, zn_sub, zn_pm, br_tt, br_ff, br_ltT, br_ltF, br_leT, br_leF, br_eqT, br_eqF, br_eqs, br_eqm, br_eqm', br_ltm, br_mlt, br_lem, br_mle, br_oiF, br_lgge, br_lgle, br_lggt, br_lglt, br_lgeq, br_zb, br_zb1, bV_s, bI_s, bL_s, zo_n, zo_s, e2.hl], hdR_w e2.h (fun i hi => by simp (disch := omega) only [w_ne, w_at, wl_ne, wl_at, wc_ne, wc_at, upd_at, upd_ne, upl_at, upl_ne, cpy_in0, zn_cl, zn_add, zn_mul, zn_sub, zn_pm, br_tt, br_ff, br_ltT, br_ltF, br_leT, br_leF, br_eqT, br_eqF, br_eqs, br_eqm, br_eqm', br_ltm, br_mlt, br_lem, br_mle, br_oiF, br_lgge, br_lgle, br_lggt, br_lglt, br_lgeq, br_zb, br_zb1, bV_s, bI_s, bL_s, zo_n, zo_s]), by simp (disch := omega) only [w_ne, w_at, wl_ne, wl_at, wc_ne, wc_at, upd_at, upd_ne, upl_at, upl_ne, cpy_in0, zn_cl, zn_add, zn_mul, zn_sub, zn_pm, br_tt, br_ff, br_ltT, br_ltF, br_leT, br_leF, br_eqT, br_eqF, br_eqs, br_eqm, br_eqm', br_ltm, br_mlt, br_lem, br_mle, br_oiF, br_lgge, br_lgle, br_lggt, br_lglt, br_lgeq, br_zb, br_zb1, bV_s, bI_s, bL_s, zo_n, zo_s, e2.o]; rw [pr_, if_neg (by omega)]; rfl, by simp (disch := omega) only [w_ne, w_at, wl_ne, wl_at, wc_ne, wc_at, upd_at, upd_ne, upl_at, upl_ne, cpy_in0, zn_cl, zn_add, zn_mul, zn_sub, zn_pm, br_tt, br_ff, br_ltT, br_ltF, br_leT, br_leF, br_eqT, br_eqF, br_eqs, br_eqm, br_eqm', br_ltm, br_mlt, br_lem, br_mle, br_oiF, br_lgge, br_lgle, br_lggt, br_lglt, br_lgeq, br_zb, br_zb1, bV_s, bI_s, bL_s, zo_n, zo_s]; rfl, by simp (disch := omega) only [w_ne, w_at, wl_ne, wl_at, wc_ne, wc_at, upd_at, upd_ne, upl_at, upl_ne, cpy_in0, zn_cl, zn_add, zn_mul, zn_sub, zn_pm, br_tt, br_ff, br_ltT, br_ltF, br_leT, br_leF, br_eqT, br_eqF, br_eqs, br_eqm, br_eqm', br_ltm, br_mlt, br_lem, br_mle, br_oiF, br_lgge, br_lgle, br_lggt, br_lglt, br_lgeq, br_zb, br_zb1, bV_s, bI_s, bL_s, zo_n, zo_s]⟩ c3, ?_⟩
        · rw [e4, if_neg gf, e_M_signs_217 4 29997, cntR_o (d := 3) e1.cn (by omega), bI_s, br_eqF (by omega) (by omega) (by omega), waitR (d := 3) (L := w'.length) (by simp (disch := omega) only [w_ne, w_at, wl_ne, wl_at, wc_ne, wc_at, upd_at, upd_ne, upl_at, upl_ne, cpy_in0, zn_cl, zn_add, zn_mul, zn_sub, zn_pm, br_tt, br_ff, br_ltT, br_ltF, br_leT, br_leF, br_eqT, br_eqF, br_eqs, br_eqm, br_eqm', br_ltm, br_mlt, br_lem, br_mle, br_oiF, br_lgge, br_lgle, br_lggt, br_lglt, br_lgeq, br_zb, br_zb1, bV_s, bI_s, bL_s, zo_n, zo_s, e2.l]) (by omega), bV_s, s_rank (d := 3) (by omega), bI_s]
          rcases ntd with ⟨z1, z2, z3⟩ | ⟨z1, z2, z3, z4⟩
          · rw [z1] at c1
            rw [br_leF (by omega) (by omega)]
            have c1' : am_c 4 y_M_token [.ref 107] (am_w (am_w (am_w (am_w (am_w m1.1 107 43 (zn (cn + 1))) 128 w'.length (zn q)) 107 40 (zn (w'.length + 1))) 107 44 (zn 1)) 107 45 (zn 1), m1.2) = some (none, m3) := c1
            rw [c1', bV_s]
          · rw [z1] at c1
            rw [br_leT (by omega) (by omega)]
            have c1' : am_c 4 y_M_token [.ref 107] (am_w (am_w (am_w (am_w (am_w m1.1 107 43 (zn (cn + 1))) 128 w'.length (zn q)) 107 40 (zn (w'.length + 1))) 107 44 (zn 1)) 107 45 (zn 0), m1.2) = some (none, m3) := c1
            rw [c1', bV_s]
        · exact frR_tr e3 (frR_tr (frR_w (c := 107) (j := 43) (x := zn (cn + 1)) (by unfold wokR; omega)) (frR_tr (frR_w (c := 128) (j := w'.length) (x := zn q) (by unfold wokR; omega)) (frR_tr (frR_w (c := 107) (j := 40) (x := zn (w'.length + 1)) (by unfold wokR; omega)) (frR_tr (frR_w (c := 107) (j := 44) (x := zn 1) (by unfold wokR; omega)) (frR_tr (frR_w (c := 107) (j := 45) (x := zb (decide (rk q < 3))) (by unfold wokR; omega)) c3.R)))))
  · refine Or.inl ⟨1, by omega, by omega, fun m h c => ?_, fun m h c => ?_⟩
    · obtain ⟨m2, f1, f2⟩ := s_failC (d := 1) (k := 1) h.k.at_
      refine ⟨m2, ?_, f2⟩
      have s6 := sk_le (tok X n p).1
      rw [pC52 h c, e_Reader_takeSign_52 2 29998, s_strg, strg_k _ v1.1, bI_s]
      by_cases z : sk_ (tok X n p).1 = 0
      · rw [br_eqT z, f1, bI_s, br_eqT rfl]
      · have z17 : (tok X n p).1 = 17 := by
          unfold isop at gop
          revert z; unfold sk_; (repeat' split) <;> omega
        rw [br_eqF z (by omega) (by omega), br_eqT z17, f1, bI_s, br_eqT rfl]
    · obtain ⟨m2, f1, f2⟩ := sgF gop h
      exact ⟨m2, by rw [pR47 h c, f1], f2⟩
