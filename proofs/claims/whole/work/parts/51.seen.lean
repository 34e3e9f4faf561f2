/-! sorts; what was seen -/
def sp_so (T : Td) : Nat → Nat → Nat → Nat
  | 0, _, acc => acc
  | r + 1, i, acc => sp_so T r (i + 1) (if sp_bits (T 6) (zn (T 6 i)) (T 0 0) 0 (zn 0) &&& ((zn 1 <<< (zn i &&& 31)) - zn 1) = zn 0 then acc + 1 else acc)
theorem lp_so {T G F : Td} {d : Nat} {m : am_M} (c : tC T G F m) (W : tW T) (r : Nat) : ∀ (i f acc : Nat) (x : Option Value), i + r = T 0 0 → r < f → r_C_sorts_4 (d + 1) f (zn acc) (zn i) x m = some (some (.int (zn (sp_so T r i acc))), m) := by
  have := W.n
  induction r with
  | zero => intro i f acc x h1 h2; obtain ⟨f, rfl⟩ : ∃ g, f = g + 1 := ⟨f - 1, by omega⟩; rw [e_C_sorts_4]; simp (disch := omega) only [w_ne, w_at, wl_ne, wl_at, wc_ne, wc_at, upd_at, upd_ne, upl_at, upl_ne, cpy_in0, zn_cl, zn_add, zn_mul, zn_sub, zn_pm, br_tt, br_ff, br_ltT, br_ltF, br_leT, br_leF, br_eqT, br_eqF, br_eqs, br_eqm, br_eqm', br_ltm, br_mlt, br_lem, br_mle, br_oiF, br_lgge, br_lgle, br_lggt, br_lglt, br_lgeq, br_zb, br_zb1, bV_s, bI_s, bL_s, zo_n, zo_s, c.n]; rfl
  | succ r ih =>
    intro i f acc x h1 h2; obtain ⟨f, rfl⟩ : ∃ g, f = g + 1 := ⟨f - 1, by omega⟩
    rw [e_C_sorts_4, sp_so, c.n, br_leF (by omega) (by omega), br_oiF (by omega) (by omega), zn_cl (by omega), c.lk i (by omega), s_bitsC c W, bI_s, br_eq, zn_add, zn_add]
    by_cases e : sp_bits (T 6) (zn (T 6 i)) (T 0 0) 0 (zn 0) &&& ((zn 1 <<< (zn i &&& 31)) - zn 1) = zn 0
    · rw [if_pos e, if_pos e, ih (i + 1) f _ _ (by omega) (by omega)]
    · rw [if_neg e, if_neg e, ih (i + 1) f _ _ (by omega) (by omega)]
theorem lq_so {T G F : Td} {d : Nat} {m : am_M} (c : tR T G F m) (W : tW T) (r : Nat) : ∀ (i f acc : Nat), i + r = T 0 0 → r < f → r_M_sorts_9 (d + 3) f (zn acc) (zn i) m = some (some (.int (zn (sp_so T r i acc))), m) := by
  have := W.n
  induction r with
  | zero => intro i f acc h1 h2; obtain ⟨f, rfl⟩ : ∃ g, f = g + 1 := ⟨f - 1, by omega⟩; rw [e_M_sorts_9]; simp (disch := omega) only [w_ne, w_at, wl_ne, wl_at, wc_ne, wc_at, upd_at, upd_ne, upl_at, upl_ne, cpy_in0, zn_cl, zn_add, zn_mul, zn_sub, zn_pm, br_tt, br_ff, br_ltT, br_ltF, br_leT, br_leF, br_eqT, br_eqF, br_eqs, br_eqm, br_eqm', br_ltm, br_mlt, br_lem, br_mle, br_oiF, br_lgge, br_lgle, br_lggt, br_lglt, br_lgeq, br_zb, br_zb1, bV_s, bI_s, bL_s, zo_n, zo_s, c.n]; rfl
  | succ r ih =>
    intro i f acc h1 h2; obtain ⟨f, rfl⟩ : ∃ g, f = g + 1 := ⟨f - 1, by omega⟩
    rw [e_M_sorts_9, sp_so, c.n, br_leF (by omega) (by omega), br_oiF (by omega) (by omega), zn_cl (by omega), c.sh i (by omega), s_lookR (W.sh i (by omega)), bI_s, ← W.ll i (by omega), s_bitsR c W, bI_s, br_eq, zn_add, zn_add, zn_add]
    by_cases e : sp_bits (T 6) (zn (T 6 i)) (T 0 0) 0 (zn 0) &&& ((zn 1 <<< (zn i &&& 31)) - zn 1) = zn 0
    · rw [if_pos e, if_pos e, ih (i + 1) f _ (by omega) (by omega)]
    · rw [if_neg e, if_neg e, ih (i + 1) f _ (by omega) (by omega)]; rfl
theorem k_sorts : ask y_C_sorts y_M_sorts [] := by
  refine ask_of fun T G F q w day num m c r => ?_
  have := c.tw.n
  have c2 := c.qR (fqR_th m (zn 0))
  exact ⟨some (.int (zn (sp_so T (T 0 0) 0 0))), m, by rw [n_C_sorts, lp_so c.tc c.tw (T 0 0) 0 29999 0 none (by omega) (by omega)], fqC_refl m, fun c1 r1 => ⟨_, by rw [n_M_sorts, lq_so c2.tr c.tw (T 0 0) 0 29999 0 (by omega) (by omega)], fqR_th m (zn 0)⟩⟩
theorem Rest.sen {T : Td} {q : Sq} {w : List Nat} {m m' : am_M} (r : Rest T q w m) (e : ∀ c, c ≤ 4 ∨ 78 ≤ c ∧ c ≤ 84 ∨ 102 ≤ c ∧ c ≤ 106 ∨ c = 108 ∨ c = 109 ∨ 153 ≤ c → m'.1 c = m.1 c) (e1 : ∀ i, i = 1 ∨ i = 4 ∨ i = 5 ∨ i = 85 ∨ i = 87 ∨ i = 90 ∨ i = 91 → m'.1 107 i = m.1 107 i) (e2 : m'.2 107 92 = m.2 107 92) (se : senI T m') : Rest T q w m' := by
  refine ⟨?_, ?_, ?_, ?_, se, r.de.mono (fun p hp => e p (by omega)) (e1 85 (by omega))⟩
  · obtain ⟨t, X, h⟩ := r.ta
    exact ⟨t, X, h.t, h.x, by rw [e 0 (by omega)]; exact h.c, by rw [e 3 (by omega)]; exact h.cb, by rw [e1 1 (by omega)]; exact h.r, by rw [e 108 (by omega)]; exact h.rb⟩
  · have := r.fa
    unfold fltI at this ⊢
    rw [e1 4 (by omega), e1 5 (by omega), e 0 (by omega)]; exact this
  · have := r.cs
    unfold cstI at this ⊢
    rw [e 4 (by omega), e 109 (by omega)]; exact this
  · have := r.im
    unfold imgI at this ⊢
    rw [e 0 (by omega), e1 87 (by omega)]
    rcases this with h | ⟨h1, h2, q, w, day, num, h3⟩
    · exact Or.inl h
    · exact Or.inr ⟨h1, h2, q, w, day, num, h3.qw, h3.nb, h3.db, h3.c.mono (fun c _ _ => e c (by omega)), by rw [e 78 (by omega)]; exact h3.cn, h3.r.mono (e 154 (by omega)), by rw [e 155 (by omega)]; exact h3.rw, by rw [e1 90 (by omega)]; exact h3.rl, by rw [e1 91 (by omega)]; exact h3.rd, by rw [e2]; exact h3.rn⟩
def S_add (S : Td) (n d t s : Nat) : Td := fun r k => if k = n then (if r = 0 then d else if r = 1 then t else s) else S r k
/-- one more that was seen -/
theorem sen_add {T : Td} {n d t s : Nat} {o : Option Nat} {S : Td} {m : am_M} {a1 a2 a3 b1 b2 b3 x : Int32} (h : senX T n o S m) (hn : n < 24) (hd : (d = 0 ∧ s < n ∧ a1 = zn 0 ∧ a3 = zn s ∧ b1 = zm ∧ b2 = zn s) ∨ (1 ≤ d ∧ d ≤ 20 ∧ t < T 0 0 ∧ s < 512 ∧ a1 = zn d ∧ a2 = zn t ∧ a3 = zn (sp_look s) ∧ b1 = zn d ∧ b2 = zn t ∧ b3 = zn s)) :
    senX T (n + 1) o (S_add S n d t s) (am_w (am_w (am_w (am_w (am_w (am_w (am_w (am_w (am_w m.1 98 n a1) 99 n a2) 100 n a3) 97 4 (zn (n + 1))) 107 2 x) 148 (3 * n) b1) 148 (3 * n + 1) b2) 148 (3 * n + 2) b3) 107 78 (zn (n + 1)), m.2) := by
  have A0 : S_add S n d t s 0 n = d := by unfold S_add; rw [if_pos rfl, if_pos rfl]
  have A1 : S_add S n d t s 1 n = t := by unfold S_add; rw [if_pos rfl, if_neg (by omega), if_pos rfl]
  have A2 : S_add S n d t s 2 n = s := by unfold S_add; rw [if_pos rfl, if_neg (by omega), if_neg (by omega)]
  have AN : ∀ r k, k ≠ n → S_add S n d t s r k = S r k := fun r k hk => by unfold S_add; rw [if_neg hk]
  refine ⟨by omega, fun b hb => by have := h.o b hb; omega, fun k hk e => ?_, fun k hk e => ?_, ?_, ?_, fun k hk => ?_, fun k hk e => ?_, fun k hk e => ?_, ?_, ?_, fun k hk e => ?_, fun k hk e => ?_⟩
  · by_cases g : k = n
    · subst g; rw [A0] at e; rw [A2]; omega
    · rw [AN 0 k g] at e; rw [AN 2 k g]; exact h.w0 k (by omega) e
  · by_cases g : k = n
    · subst g; rw [A0] at e; rw [A0, A1, A2]; omega
    · rw [AN 0 k g] at e; rw [AN 0 k g, AN 1 k g, AN 2 k g]; exact h.w1 k (by omega) e
  · simp (disch := omega) only [w_ne, w_at, wl_ne, wl_at, wc_ne, wc_at, upd_at, upd_ne, upl_at, upl_ne, cpy_in0, zn_cl, zn_add, zn_mul, zn_sub, zn_pm, br_tt, br_ff, br_ltT, br_ltF, br_leT, br_leF, br_eqT, br_eqF, br_eqs, br_eqm, br_eqm', br_ltm, br_mlt, br_lem, br_mle, br_oiF, br_lgge, br_lgle, br_lggt, br_lglt, br_lgeq, br_zb, br_zb1, bV_s, bI_s, bL_s, zo_n, zo_s]
  · simp (disch := omega) only [w_ne, w_at, wl_ne, wl_at, wc_ne, wc_at, upd_at, upd_ne, upl_at, upl_ne, cpy_in0, zn_cl, zn_add, zn_mul, zn_sub, zn_pm, br_tt, br_ff, br_ltT, br_ltF, br_leT, br_leF, br_eqT, br_eqF, br_eqs, br_eqm, br_eqm', br_ltm, br_mlt, br_lem, br_mle, br_oiF, br_lgge, br_lgle, br_lggt, br_lglt, br_lgeq, br_zb, br_zb1, bV_s, bI_s, bL_s, zo_n, zo_s, h.co]
  · by_cases g : k = n
    · subst g; rw [A0]; simp (disch := omega) only [w_ne, w_at, wl_ne, wl_at, wc_ne, wc_at, upd_at, upd_ne, upl_at, upl_ne, cpy_in0, zn_cl, zn_add, zn_mul, zn_sub, zn_pm, br_tt, br_ff, br_ltT, br_ltF, br_leT, br_leF, br_eqT, br_eqF, br_eqs, br_eqm, br_eqm', br_ltm, br_mlt, br_lem, br_mle, br_oiF, br_lgge, br_lgle, br_lggt, br_lglt, br_lgeq, br_zb, br_zb1, bV_s, bI_s, bL_s, zo_n, zo_s]
      rcases hd with q | q
      · rw [q.2.2.1, q.1]
      · exact q.2.2.2.2.1
    · rw [AN 0 k g]; simp (disch := omega) only [w_ne, w_at, wl_ne, wl_at, wc_ne, wc_at, upd_at, upd_ne, upl_at, upl_ne, cpy_in0, zn_cl, zn_add, zn_mul, zn_sub, zn_pm, br_tt, br_ff, br_ltT, br_ltF, br_leT, br_leF, br_eqT, br_eqF, br_eqs, br_eqm, br_eqm', br_ltm, br_mlt, br_lem, br_mle, br_oiF, br_lgge, br_lgle, br_lggt, br_lglt, br_lgeq, br_zb, br_zb1, bV_s, bI_s, bL_s, zo_n, zo_s]; exact h.c0 k (by omega)
  · by_cases g : k = n
    · subst g; rw [A0] at e; rw [A2]; simp (disch := omega) only [w_ne, w_at, wl_ne, wl_at, wc_ne, wc_at, upd_at, upd_ne, upl_at, upl_ne, cpy_in0, zn_cl, zn_add, zn_mul, zn_sub, zn_pm, br_tt, br_ff, br_ltT, br_ltF, br_leT, br_leF, br_eqT, br_eqF, br_eqs, br_eqm, br_eqm', br_ltm, br_mlt, br_lem, br_mle, br_oiF, br_lgge, br_lgle, br_lggt, br_lglt, br_lgeq, br_zb, br_zb1, bV_s, bI_s, bL_s, zo_n, zo_s]
      rcases hd with q | q
      · exact q.2.2.2.1
      · omega
    · rw [AN 0 k g] at e; rw [AN 2 k g]; simp (disch := omega) only [w_ne, w_at, wl_ne, wl_at, wc_ne, wc_at, upd_at, upd_ne, upl_at, upl_ne, cpy_in0, zn_cl, zn_add, zn_mul, zn_sub, zn_pm, br_tt, br_ff, br_ltT, br_ltF, br_leT, br_leF, br_eqT, br_eqF, br_eqs, br_eqm, br_eqm', br_ltm, br_mlt, br_lem, br_mle, br_oiF, br_lgge, br_lgle, br_lggt, br_lglt, br_lgeq, br_zb, br_zb1, bV_s, bI_s, bL_s, zo_n, zo_s]; exact h.c1 k (by omega) e
  · by_cases g : k = n
    · subst g; rw [A0] at e; rw [A1, A2]; simp (disch := omega) only [w_ne, w_at, wl_ne, wl_at, wc_ne, wc_at, upd_at, upd_ne, upl_at, upl_ne, cpy_in0, zn_cl, zn_add, zn_mul, zn_sub, zn_pm, br_tt, br_ff, br_ltT, br_ltF, br_leT, br_leF, br_eqT, br_eqF, br_eqs, br_eqm, br_eqm', br_ltm, br_mlt, br_lem, br_mle, br_oiF, br_lgge, br_lgle, br_lggt, br_lglt, br_lgeq, br_zb, br_zb1, bV_s, bI_s, bL_s, zo_n, zo_s]
      rcases hd with q | q
      · omega
      · exact ⟨q.2.2.2.2.2.1, q.2.2.2.2.2.2.1⟩
    · rw [AN 0 k g] at e; rw [AN 1 k g, AN 2 k g]; simp (disch := omega) only [w_ne, w_at, wl_ne, wl_at, wc_ne, wc_at, upd_at, upd_ne, upl_at, upl_ne, cpy_in0, zn_cl, zn_add, zn_mul, zn_sub, zn_pm, br_tt, br_ff, br_ltT, br_ltF, br_leT, br_leF, br_eqT, br_eqF, br_eqs, br_eqm, br_eqm', br_ltm, br_mlt, br_lem, br_mle, br_oiF, br_lgge, br_lgle, br_lggt, br_lglt, br_lgeq, br_zb, br_zb1, bV_s, bI_s, bL_s, zo_n, zo_s]; exact h.c2 k (by omega) e
  · simp (disch := omega) only [w_ne, w_at, wl_ne, wl_at, wc_ne, wc_at, upd_at, upd_ne, upl_at, upl_ne, cpy_in0, zn_cl, zn_add, zn_mul, zn_sub, zn_pm, br_tt, br_ff, br_ltT, br_ltF, br_leT, br_leF, br_eqT, br_eqF, br_eqs, br_eqm, br_eqm', br_ltm, br_mlt, br_lem, br_mle, br_oiF, br_lgge, br_lgle, br_lggt, br_lglt, br_lgeq, br_zb, br_zb1, bV_s, bI_s, bL_s, zo_n, zo_s]
  · simp (disch := omega) only [w_ne, w_at, wl_ne, wl_at, wc_ne, wc_at, upd_at, upd_ne, upl_at, upl_ne, cpy_in0, zn_cl, zn_add, zn_mul, zn_sub, zn_pm, br_tt, br_ff, br_ltT, br_ltF, br_leT, br_leF, br_eqT, br_eqF, br_eqs, br_eqm, br_eqm', br_ltm, br_mlt, br_lem, br_mle, br_oiF, br_lgge, br_lgle, br_lggt, br_lglt, br_lgeq, br_zb, br_zb1, bV_s, bI_s, bL_s, zo_n, zo_s, h.ro]
  · by_cases g : k = n
    · subst g; rw [A0] at e; rw [A2]; simp (disch := omega) only [w_ne, w_at, wl_ne, wl_at, wc_ne, wc_at, upd_at, upd_ne, upl_at, upl_ne, cpy_in0, zn_cl, zn_add, zn_mul, zn_sub, zn_pm, br_tt, br_ff, br_ltT, br_ltF, br_leT, br_leF, br_eqT, br_eqF, br_eqs, br_eqm, br_eqm', br_ltm, br_mlt, br_lem, br_mle, br_oiF, br_lgge, br_lgle, br_lggt, br_lglt, br_lgeq, br_zb, br_zb1, bV_s, bI_s, bL_s, zo_n, zo_s]
      rcases hd with q | q
      · exact ⟨q.2.2.2.2.1, q.2.2.2.2.2⟩
      · omega
    · rw [AN 0 k g] at e; rw [AN 2 k g]; simp (disch := omega) only [w_ne, w_at, wl_ne, wl_at, wc_ne, wc_at, upd_at, upd_ne, upl_at, upl_ne, cpy_in0, zn_cl, zn_add, zn_mul, zn_sub, zn_pm, br_tt, br_ff, br_ltT, br_ltF, br_leT, br_leF, br_eqT, br_eqF, br_eqs, br_eqm, br_eqm', br_ltm, br_mlt, br_lem, br_mle, br_oiF, br_lgge, br_lgle, br_lggt, br_lglt, br_lgeq, br_zb, br_zb1, bV_s, bI_s, bL_s, zo_n, zo_s]; exact h.r1 k (by omega) e
  · by_cases g : k = n
    · subst g; rw [A0] at e; rw [A0, A1, A2]; simp (disch := omega) only [w_ne, w_at, wl_ne, wl_at, wc_ne, wc_at, upd_at, upd_ne, upl_at, upl_ne, cpy_in0, zn_cl, zn_add, zn_mul, zn_sub, zn_pm, br_tt, br_ff, br_ltT, br_ltF, br_leT, br_leF, br_eqT, br_eqF, br_eqs, br_eqm, br_eqm', br_ltm, br_mlt, br_lem, br_mle, br_oiF, br_lgge, br_lgle, br_lggt, br_lglt, br_lgeq, br_zb, br_zb1, bV_s, bI_s, bL_s, zo_n, zo_s]
      rcases hd with q | q
      · omega
      · exact q.2.2.2.2.2.2.2
    · rw [AN 0 k g] at e; rw [AN 0 k g, AN 1 k g, AN 2 k g]; simp (disch := omega) only [w_ne, w_at, wl_ne, wl_at, wc_ne, wc_at, upd_at, upd_ne, upl_at, upl_ne, cpy_in0, zn_cl, zn_add, zn_mul, zn_sub, zn_pm, br_tt, br_ff, br_ltT, br_ltF, br_leT, br_leF, br_eqT, br_eqF, br_eqs, br_eqm, br_eqm', br_ltm, br_mlt, br_lem, br_mle, br_oiF, br_lgge, br_lgle, br_lggt, br_lglt, br_lgeq, br_zb, br_zb1, bV_s, bI_s, bL_s, zo_n, zo_s]; exact h.r2 k (by omega) e
theorem s_noteBoth {T G F : Td} {q : Sq} {w : List Nat} {day num n d t s : Nat} {o : Option Nat} {S : Td} {m : am_M} {a1 a2 a3 b1 b2 b3 : Int32} (c : Core T G F q w day num m) (r : Rest T q w m) (h : senX T n o S m) (hn : n < 24) (hd : (d = 0 ∧ s < n ∧ a1 = zn 0 ∧ a3 = zn s ∧ b1 = zm ∧ b2 = zn s) ∨ (1 ≤ d ∧ d ≤ 20 ∧ t < T 0 0 ∧ s < 512 ∧ a1 = zn d ∧ a2 = zn t ∧ a3 = zn (sp_look s) ∧ b1 = zn d ∧ b2 = zn t ∧ b3 = zn s)) :
    ∃ m1 m2, am_c 7 y_Memory_add [.ref 97, .int a1, .int a2, .int a3] m = some (some (.int (zn n)), m1) ∧ Core T G F q w day num m1 ∧ m1.1 107 = m.1 107 ∧ am_c 7 y_M_noted [.ref 107, .int b1, .int b2, .int b3] (am_w m1.1 107 2 (zn 0), m1.2) = some (some (.int (zn n)), m2) ∧ Core T G F q w day num m2 ∧ Rest T q w m2 := by
  have sa := sen_add (x := zn 0) h hn hd
  refine ⟨(am_w (am_w (am_w (am_w m.1 98 n a1) 99 n a2) 100 n a3) 97 4 (zn (n + 1)), m.2), (am_w (am_w (am_w (am_w (am_w (am_w (am_w (am_w (am_w m.1 98 n a1) 99 n a2) 100 n a3) 97 4 (zn (n + 1))) 107 2 (zn 0)) 148 (3 * n) b1) 148 (3 * n + 1) b2) 148 (3 * n + 2) b3) 107 78 (zn (n + 1)), m.2), ?_, c.mono (fun p hp => by simp (disch := omega) only [w_ne, w_at, wl_ne, wl_at, wc_ne, wc_at, upd_at, upd_ne, upl_at, upl_ne, cpy_in0, zn_cl, zn_add, zn_mul, zn_sub, zn_pm, br_tt, br_ff, br_ltT, br_ltF, br_leT, br_leF, br_eqT, br_eqF, br_eqs, br_eqm, br_eqm', br_ltm, br_mlt, br_lem, br_mle, br_oiF, br_lgge, br_lgle, br_lggt, br_lglt, br_lgeq, br_zb, br_zb1, bV_s, bI_s, bL_s, zo_n, zo_s]) (fun p hp => by simp (disch := omega) only [w_ne, w_at, wl_ne, wl_at, wc_ne, wc_at, upd_at, upd_ne, upl_at, upl_ne, cpy_in0, zn_cl, zn_add, zn_mul, zn_sub, zn_pm, br_tt, br_ff, br_ltT, br_ltF, br_leT, br_leF, br_eqT, br_eqF, br_eqs, br_eqm, br_eqm', br_ltm, br_mlt, br_lem, br_mle, br_oiF, br_lgge, br_lgle, br_lggt, br_lglt, br_lgeq, br_zb, br_zb1, bV_s, bI_s, bL_s, zo_n, zo_s]) (fun i hi => by simp (disch := omega) only [w_ne, w_at, wl_ne, wl_at, wc_ne, wc_at, upd_at, upd_ne, upl_at, upl_ne, cpy_in0, zn_cl, zn_add, zn_mul, zn_sub, zn_pm, br_tt, br_ff, br_ltT, br_ltF, br_leT, br_leF, br_eqT, br_eqF, br_eqs, br_eqm, br_eqm', br_ltm, br_mlt, br_lem, br_mle, br_oiF, br_lgge, br_lgle, br_lggt, br_lglt, br_lgeq, br_zb, br_zb1, bV_s, bI_s, bL_s, zo_n, zo_s]) rfl, by simp (disch := omega) only [w_ne, w_at, wl_ne, wl_at, wc_ne, wc_at, upd_at, upd_ne, upl_at, upl_ne, cpy_in0, zn_cl, zn_add, zn_mul, zn_sub, zn_pm, br_tt, br_ff, br_ltT, br_ltF, br_leT, br_leF, br_eqT, br_eqF, br_eqs, br_eqm, br_eqm', br_ltm, br_mlt, br_lem, br_mle, br_oiF, br_lgge, br_lgle, br_lggt, br_lglt, br_lgeq, br_zb, br_zb1, bV_s, bI_s, bL_s, zo_n, zo_s], ?_, ?_, ?_⟩
  · rw [n_Memory_add, h.cn, br_ltT (by omega) (by omega), br_oiF (by omega) (by omega), br_oiF (by omega) (by omega), br_oiF (by omega) (by omega), zn_cl (by omega), zn_add, zn_sub (by omega), Nat.add_sub_cancel]
  · rw [n_M_noted]
    have e : (am_w (am_w (am_w (am_w (am_w m.1 98 n a1) 99 n a2) 100 n a3) 97 4 (zn (n + 1))) 107 2 (zn 0), m.2).1 107 78 = zn n := by simp (disch := omega) only [w_ne, w_at, wl_ne, wl_at, wc_ne, wc_at, upd_at, upd_ne, upl_at, upl_ne, cpy_in0, zn_cl, zn_add, zn_mul, zn_sub, zn_pm, br_tt, br_ff, br_ltT, br_ltF, br_leT, br_leF, br_eqT, br_eqF, br_eqs, br_eqm, br_eqm', br_ltm, br_mlt, br_lem, br_mle, br_oiF, br_lgge, br_lgle, br_lggt, br_lglt, br_lgeq, br_zb, br_zb1, bV_s, bI_s, bL_s, zo_n, zo_s, h.rn]
    rw [e, zn_mul, zn_add, zn_add, br_oiF (by omega) (by omega), br_oiF (by omega) (by omega), br_oiF (by omega) (by omega), zn_cl (by omega), zn_cl (by omega), zn_cl (by omega), zn_add, zn_sub (by omega), Nat.add_sub_cancel]
  · exact c.mono (fun p hp => by simp (disch := omega) only [w_ne, w_at, wl_ne, wl_at, wc_ne, wc_at, upd_at, upd_ne, upl_at, upl_ne, cpy_in0, zn_cl, zn_add, zn_mul, zn_sub, zn_pm, br_tt, br_ff, br_ltT, br_ltF, br_leT, br_leF, br_eqT, br_eqF, br_eqs, br_eqm, br_eqm', br_ltm, br_mlt, br_lem, br_mle, br_oiF, br_lgge, br_lgle, br_lggt, br_lglt, br_lgeq, br_zb, br_zb1, bV_s, bI_s, bL_s, zo_n, zo_s]) (fun p hp => by simp (disch := omega) only [w_ne, w_at, wl_ne, wl_at, wc_ne, wc_at, upd_at, upd_ne, upl_at, upl_ne, cpy_in0, zn_cl, zn_add, zn_mul, zn_sub, zn_pm, br_tt, br_ff, br_ltT, br_ltF, br_leT, br_leF, br_eqT, br_eqF, br_eqs, br_eqm, br_eqm', br_ltm, br_mlt, br_lem, br_mle, br_oiF, br_lgge, br_lgle, br_lggt, br_lglt, br_lgeq, br_zb, br_zb1, bV_s, bI_s, bL_s, zo_n, zo_s]) (fun i hi => by rcases hi with hi | hi <;> simp (disch := omega) only [w_ne, w_at, wl_ne, wl_at, wc_ne, wc_at, upd_at, upd_ne, upl_at, upl_ne, cpy_in0, zn_cl, zn_add, zn_mul, zn_sub, zn_pm, br_tt, br_ff, br_ltT, br_ltF, br_leT, br_leF, br_eqT, br_eqF, br_eqs, br_eqm, br_eqm', br_ltm, br_mlt, br_lem, br_mle, br_oiF, br_lgge, br_lgle, br_lggt, br_lglt, br_lgeq, br_zb, br_zb1, bV_s, bI_s, bL_s, zo_n, zo_s]) rfl
  · refine r.sen (fun p hp => by simp (disch := omega) only [w_ne, w_at, wl_ne, wl_at, wc_ne, wc_at, upd_at, upd_ne, upl_at, upl_ne, cpy_in0, zn_cl, zn_add, zn_mul, zn_sub, zn_pm, br_tt, br_ff, br_ltT, br_ltF, br_leT, br_leF, br_eqT, br_eqF, br_eqs, br_eqm, br_eqm', br_ltm, br_mlt, br_lem, br_mle, br_oiF, br_lgge, br_lgle, br_lggt, br_lglt, br_lgeq, br_zb, br_zb1, bV_s, bI_s, bL_s, zo_n, zo_s]) (fun i hi => ?_) rfl ⟨n + 1, o, _, sa⟩
    rcases hi with hi | hi | hi | hi | hi | hi | hi <;> simp (disch := omega) only [w_ne, w_at, wl_ne, wl_at, wc_ne, wc_at, upd_at, upd_ne, upl_at, upl_ne, cpy_in0, zn_cl, zn_add, zn_mul, zn_sub, zn_pm, br_tt, br_ff, br_ltT, br_ltF, br_leT, br_leF, br_eqT, br_eqF, br_eqs, br_eqm, br_eqm', br_ltm, br_mlt, br_lem, br_mle, br_oiF, br_lgge, br_lgle, br_lggt, br_lglt, br_lgeq, br_zb, br_zb1, bV_s, bI_s, bL_s, zo_n, zo_s]
theorem k_strike (x : Int32) : ask y_C_strike y_M_strike [.int x] := by
  intro m ⟨T, G, F, q, w, day, num, c, r⟩
  obtain ⟨n, o, S, h⟩ := r.se
  have hn := h.n
  have bad : am_c 8 y_C_strike [.ref 0, .int x] m = some (some (.int zm), m) → am_c 8 y_M_strike [.ref 107, .int x] m = some (some (.int zm), (am_w m.1 107 2 (zn 0), m.2)) → ∃ r m1 m2, am_c 8 y_C_strike [.ref 0, .int x] m = some (r, m1) ∧ am_c 8 y_M_strike [.ref 107, .int x] m1 = some (r, m2) ∧ Inv m2 := fun h1 h2 => ⟨_, m, _, h1, h2, T, G, F, q, w, day, num, c.qR (fqR_th m (zn 0)), r.qR (fqR_th m (zn 0))⟩
  by_cases ok : isN n x = true
  · obtain ⟨k, hk, rfl⟩ := isN_t ok
    by_cases h24 : n < 24
    · obtain ⟨m1, m2, a1, a2, a3, a4, a5, a6⟩ := s_noteBoth (d := 0) (t := 0) (s := k) (a1 := zn 0) (a2 := zm) (a3 := zn k) (b1 := zm) (b2 := zn k) (b3 := zn 0) c r h h24 (Or.inl ⟨rfl, hk, rfl, rfl, rfl, rfl⟩)
      refine ⟨some (.int (zn n)), m1, m2, ?_, ?_, T, G, F, q, w, day, num, a5, a6⟩
      · rw [n_C_strike, br_ltF (by omega) (by omega), h.cn, br_ltT hk (by omega), a1, bI_s]
      · rw [n_M_strike, a3, h.rn, br_eqF (by omega) (by omega) (by omega), br_ltF (by omega) (by omega), br_ltT hk (by omega), a4, bI_s]
    · refine bad ?_ ?_
      · rw [n_C_strike, br_ltF (by omega) (by omega), h.cn, br_ltT hk (by omega), n_Memory_add, h.cn, br_ltF (by omega) (by omega), bI_s]
      · rw [n_M_strike, h.rn, br_eqT (by omega)]
  · refine bad ?_ ?_
    · rw [n_C_strike, h.cn]
      have := br_isN (n := n) (x := x) (t := am_bI (am_c 7 y_Memory_add [.ref 97, .int (zn 0), .int zm, .int x] m) (fun r2 m1 => some (some (.int r2), m1))) (f := some (some (.int zm), m)) (by omega)
      rw [br_lt, br_le, zn_i (by omega), zn_i (by omega)] at this
      rw [br_lt, br_lt, zn_i (by omega), zn_i (by omega)]
      rw [if_neg ok] at this
      by_cases g1 : x.toInt < (0 : Nat)
      · rw [if_pos g1]
      · rw [if_neg g1]
        by_cases g2 : x.toInt < n
        · rw [if_neg g1, if_neg (by omega)] at this; rw [if_pos g2]; exact this
        · rw [if_neg g2]
    · rw [n_M_strike, h.rn, br_lt, br_lt, zn_i (by omega), zn_i (by omega)]
      have hno : ¬ (0 ≤ x.toInt ∧ x.toInt < n) := fun e => ok (by unfold isN; exact decide_eq_true e)
      rw [br_eq]
      split
      · rfl
      · by_cases g1 : x.toInt < (0 : Nat)
        · rw [if_pos g1]
        · rw [if_neg g1, if_neg (by omega)]
theorem k_see (x y z : Int32) : ask y_C_see y_M_see [.int x, .int y, .int z] := by
  intro m ⟨T, G, F, q, w, day, num, c, r⟩
  obtain ⟨n, o, S, h⟩ := r.se
  have hn := h.n
  have c2 := c.qR (fqR_th m (zn 0))
  have i1 : ∀ (m : am_M), am_c 7 y_C_isShape [.int z] m = some (some (.int (zb (isR (0 : Nat) (511 : Nat) z))), m) := fun m => by rw [n_C_isShape, isR_eq (by omega) (by omega), zb_if]
  by_cases ok : isR (1 : Nat) (20 : Nat) x = true ∧ isN (T 0 0) y = true ∧ isR (0 : Nat) (511 : Nat) z = true ∧ n < 24
  · obtain ⟨e1, e2, e3, e4⟩ := ok
    obtain ⟨d, d1, d2, rfl⟩ := isR_t e1
    obtain ⟨t, ht, rfl⟩ := isN_t e2
    obtain ⟨s, _, s2, rfl⟩ := isR_t e3
    obtain ⟨m1, m2, a1, a2, a3, a4, a5, a6⟩ := s_noteBoth (d := d) (t := t) (s := s) (a1 := zn d) (a2 := zn t) (a3 := zn (sp_look s)) (b1 := zn d) (b2 := zn t) (b3 := zn s) c r h e4 (Or.inr ⟨d1, d2, ht, by omega, rfl, rfl, rfl, rfl, rfl, rfl⟩)
    have c3 := a2.qR (fqR_th m1 (zn 0))
    refine ⟨some (.int (zn n)), m1, m2, ?_, ?_, T, G, F, q, w, day, num, a5, a6⟩
    · rw [n_C_see, isR_eq (by omega) (by omega), if_pos e1, s_isThingC c.tc c.tw, e2, bI_s, br_zb, if_pos rfl, i1, e3, bI_s, br_zb, if_pos rfl, s_lookC (by omega), bI_s, a1, bI_s]
    · rw [n_M_see, a3, h.rn, br_eqF (by omega) (by omega) (by omega), s_isInN (by omega) (by omega), e1, bI_s, br_zb, if_pos rfl, s_isThingR c3.tr c.tw, e2, bI_s, br_zb, if_pos rfl, s_isInN (by omega) (by omega), e3, bI_s, br_zb, if_pos rfl, a4, bI_s]
  · refine ⟨some (.int zm), m, (am_w m.1 107 2 (zn 0), m.2), ?_, ?_, T, G, F, q, w, day, num, c2, r.qR (fqR_th m (zn 0))⟩
    · rw [n_C_see, isR_eq (by omega) (by omega), s_isThingC c.tc c.tw, bI_s, br_zb, i1, bI_s, br_zb]
      by_cases e1 : isR (1 : Nat) (20 : Nat) x = true
      · rw [if_pos e1]
        by_cases e2 : isN (T 0 0) y = true
        · rw [if_pos e2]
          by_cases e3 : isR (0 : Nat) (511 : Nat) z = true
          · have e4 : ¬ n < 24 := fun e4 => ok ⟨e1, e2, e3, e4⟩
            obtain ⟨s, _, s2, rfl⟩ := isR_t e3
            rw [if_pos e3, s_lookC (by omega), bI_s, n_Memory_add, h.cn, br_ltF (by omega) (by omega), bI_s]
          · rw [if_neg e3]
        · rw [if_neg e2]
      · rw [if_neg e1]
    · rw [n_M_see, h.rn, s_isInN (by omega) (by omega), bI_s, br_zb, s_isThingR c2.tr c.tw, bI_s, br_zb, s_isInN (by omega) (by omega), bI_s, br_zb, br_eq]
      by_cases e4 : n < 24
      · rw [if_neg (by rw [zn_inj (by omega) (by omega)]; omega)]
        by_cases e1 : isR (1 : Nat) (20 : Nat) x = true
        · rw [if_pos e1]
          by_cases e2 : isN (T 0 0) y = true
          · rw [if_pos e2, if_neg (fun e3 => ok ⟨e1, e2, e3, e4⟩)]
          · rw [if_neg e2]
        · rw [if_neg e1]
      · rw [if_pos (by rw [show n = 24 from by omega])]
theorem k_known (x : Int32) : ask y_C_known y_M_known [.int x] := by
  intro m ⟨T, G, F, q, w, day, num, c, r⟩
  obtain ⟨n, o, S, h⟩ := r.se
  have hn := h.n
  have c2 := c.qR (fqR_th m (zn 0))
  by_cases ok : -1 ≤ x.toInt ∧ x.toInt ≤ n
  · obtain ⟨o', ho, hx⟩ : ∃ o' : Option Nat, (∀ b, o' = some b → b ≤ n) ∧ x = zo o' := by
      rcases i32_cases x with ⟨a, ha, rfl⟩ | hneg
      · rw [zn_i ha] at ok; exact ⟨some a, fun b hb => by cases hb; omega, rfl⟩
      · exact ⟨none, (by intro b hb; cases hb), Int32.toInt_inj.mp (by rw [zo_n, zm_i]; omega)⟩
    refine ⟨some (.int (zn 1)), (am_w m.1 97 5 x, m.2), (am_w (am_w (am_w m.1 97 5 x) 107 2 (zn 0)) 107 79 x, m.2), ?_, ?_, T, G, F, q, w, day, num, c.mono (fun p hp => by simp (disch := omega) only [w_ne, w_at, wl_ne, wl_at, wc_ne, wc_at, upd_at, upd_ne, upl_at, upl_ne, cpy_in0, zn_cl, zn_add, zn_mul, zn_sub, zn_pm, br_tt, br_ff, br_ltT, br_ltF, br_leT, br_leF, br_eqT, br_eqF, br_eqs, br_eqm, br_eqm', br_ltm, br_mlt, br_lem, br_mle, br_oiF, br_lgge, br_lgle, br_lggt, br_lglt, br_lgeq, br_zb, br_zb1, bV_s, bI_s, bL_s, zo_n, zo_s]) (fun p hp => by simp (disch := omega) only [w_ne, w_at, wl_ne, wl_at, wc_ne, wc_at, upd_at, upd_ne, upl_at, upl_ne, cpy_in0, zn_cl, zn_add, zn_mul, zn_sub, zn_pm, br_tt, br_ff, br_ltT, br_ltF, br_leT, br_leF, br_eqT, br_eqF, br_eqs, br_eqm, br_eqm', br_ltm, br_mlt, br_lem, br_mle, br_oiF, br_lgge, br_lgle, br_lggt, br_lglt, br_lgeq, br_zb, br_zb1, bV_s, bI_s, bL_s, zo_n, zo_s]) (fun i hi => by rcases hi with hi | hi <;> simp (disch := omega) only [w_ne, w_at, wl_ne, wl_at, wc_ne, wc_at, upd_at, upd_ne, upl_at, upl_ne, cpy_in0, zn_cl, zn_add, zn_mul, zn_sub, zn_pm, br_tt, br_ff, br_ltT, br_ltF, br_leT, br_leF, br_eqT, br_eqF, br_eqs, br_eqm, br_eqm', br_ltm, br_mlt, br_lem, br_mle, br_oiF, br_lgge, br_lgle, br_lggt, br_lglt, br_lgeq, br_zb, br_zb1, bV_s, bI_s, bL_s, zo_n, zo_s]) rfl, r.sen (fun p hp => by simp (disch := omega) only [w_ne, w_at, wl_ne, wl_at, wc_ne, wc_at, upd_at, upd_ne, upl_at, upl_ne, cpy_in0, zn_cl, zn_add, zn_mul, zn_sub, zn_pm, br_tt, br_ff, br_ltT, br_ltF, br_leT, br_leF, br_eqT, br_eqF, br_eqs, br_eqm, br_eqm', br_ltm, br_mlt, br_lem, br_mle, br_oiF, br_lgge, br_lgle, br_lggt, br_lglt, br_lgeq, br_zb, br_zb1, bV_s, bI_s, bL_s, zo_n, zo_s]) (fun i hi => by rcases hi with hi | hi | hi | hi | hi | hi | hi <;> simp (disch := omega) only [w_ne, w_at, wl_ne, wl_at, wc_ne, wc_at, upd_at, upd_ne, upl_at, upl_ne, cpy_in0, zn_cl, zn_add, zn_mul, zn_sub, zn_pm, br_tt, br_ff, br_ltT, br_ltF, br_leT, br_leF, br_eqT, br_eqF, br_eqs, br_eqm, br_eqm', br_ltm, br_mlt, br_lem, br_mle, br_oiF, br_lgge, br_lgle, br_lggt, br_lglt, br_lgeq, br_zb, br_zb1, bV_s, bI_s, bL_s, zo_n, zo_s]) rfl ⟨n, o', S, h.n, ho, h.w0, h.w1, by simp (disch := omega) only [w_ne, w_at, wl_ne, wl_at, wc_ne, wc_at, upd_at, upd_ne, upl_at, upl_ne, cpy_in0, zn_cl, zn_add, zn_mul, zn_sub, zn_pm, br_tt, br_ff, br_ltT, br_ltF, br_leT, br_leF, br_eqT, br_eqF, br_eqs, br_eqm, br_eqm', br_ltm, br_mlt, br_lem, br_mle, br_oiF, br_lgge, br_lgle, br_lggt, br_lglt, br_lgeq, br_zb, br_zb1, bV_s, bI_s, bL_s, zo_n, zo_s, h.cn], by simp (disch := omega) only [w_ne, w_at, wl_ne, wl_at, wc_ne, wc_at, upd_at, upd_ne, upl_at, upl_ne, cpy_in0, zn_cl, zn_add, zn_mul, zn_sub, zn_pm, br_tt, br_ff, br_ltT, br_ltF, br_leT, br_leF, br_eqT, br_eqF, br_eqs, br_eqm, br_eqm', br_ltm, br_mlt, br_lem, br_mle, br_oiF, br_lgge, br_lgle, br_lggt, br_lglt, br_lgeq, br_zb, br_zb1, bV_s, bI_s, bL_s, zo_n, zo_s, hx], by simp (disch := omega) only [w_ne, w_at, wl_ne, wl_at, wc_ne, wc_at, upd_at, upd_ne, upl_at, upl_ne, cpy_in0, zn_cl, zn_add, zn_mul, zn_sub, zn_pm, br_tt, br_ff, br_ltT, br_ltF, br_leT, br_leF, br_eqT, br_eqF, br_eqs, br_eqm, br_eqm', br_ltm, br_mlt, br_lem, br_mle, br_oiF, br_lgge, br_lgle, br_lggt, br_lglt, br_lgeq, br_zb, br_zb1, bV_s, bI_s, bL_s, zo_n, zo_s]; exact h.c0, by simp (disch := omega) only [w_ne, w_at, wl_ne, wl_at, wc_ne, wc_at, upd_at, upd_ne, upl_at, upl_ne, cpy_in0, zn_cl, zn_add, zn_mul, zn_sub, zn_pm, br_tt, br_ff, br_ltT, br_ltF, br_leT, br_leF, br_eqT, br_eqF, br_eqs, br_eqm, br_eqm', br_ltm, br_mlt, br_lem, br_mle, br_oiF, br_lgge, br_lgle, br_lggt, br_lglt, br_lgeq, br_zb, br_zb1, bV_s, bI_s, bL_s, zo_n, zo_s]; exact h.c1, by simp (disch := omega) only [w_ne, w_at, wl_ne, wl_at, wc_ne, wc_at, upd_at, upd_ne, upl_at, upl_ne, cpy_in0, zn_cl, zn_add, zn_mul, zn_sub, zn_pm, br_tt, br_ff, br_ltT, br_ltF, br_leT, br_leF, br_eqT, br_eqF, br_eqs, br_eqm, br_eqm', br_ltm, br_mlt, br_lem, br_mle, br_oiF, br_lgge, br_lgle, br_lggt, br_lglt, br_lgeq, br_zb, br_zb1, bV_s, bI_s, bL_s, zo_n, zo_s]; exact h.c2, by simp (disch := omega) only [w_ne, w_at, wl_ne, wl_at, wc_ne, wc_at, upd_at, upd_ne, upl_at, upl_ne, cpy_in0, zn_cl, zn_add, zn_mul, zn_sub, zn_pm, br_tt, br_ff, br_ltT, br_ltF, br_leT, br_leF, br_eqT, br_eqF, br_eqs, br_eqm, br_eqm', br_ltm, br_mlt, br_lem, br_mle, br_oiF, br_lgge, br_lgle, br_lggt, br_lglt, br_lgeq, br_zb, br_zb1, bV_s, bI_s, bL_s, zo_n, zo_s, h.rn], by simp (disch := omega) only [w_ne, w_at, wl_ne, wl_at, wc_ne, wc_at, upd_at, upd_ne, upl_at, upl_ne, cpy_in0, zn_cl, zn_add, zn_mul, zn_sub, zn_pm, br_tt, br_ff, br_ltT, br_ltF, br_leT, br_leF, br_eqT, br_eqF, br_eqs, br_eqm, br_eqm', br_ltm, br_mlt, br_lem, br_mle, br_oiF, br_lgge, br_lgle, br_lggt, br_lglt, br_lgeq, br_zb, br_zb1, bV_s, bI_s, bL_s, zo_n, zo_s, hx], by simp (disch := omega) only [w_ne, w_at, wl_ne, wl_at, wc_ne, wc_at, upd_at, upd_ne, upl_at, upl_ne, cpy_in0, zn_cl, zn_add, zn_mul, zn_sub, zn_pm, br_tt, br_ff, br_ltT, br_ltF, br_leT, br_leF, br_eqT, br_eqF, br_eqs, br_eqm, br_eqm', br_ltm, br_mlt, br_lem, br_mle, br_oiF, br_lgge, br_lgle, br_lggt, br_lglt, br_lgeq, br_zb, br_zb1, bV_s, bI_s, bL_s, zo_n, zo_s]; exact h.r1, by simp (disch := omega) only [w_ne, w_at, wl_ne, wl_at, wc_ne, wc_at, upd_at, upd_ne, upl_at, upl_ne, cpy_in0, zn_cl, zn_add, zn_mul, zn_sub, zn_pm, br_tt, br_ff, br_ltT, br_ltF, br_leT, br_leF, br_eqT, br_eqF, br_eqs, br_eqm, br_eqm', br_ltm, br_mlt, br_lem, br_mle, br_oiF, br_lgge, br_lgle, br_lggt, br_lglt, br_lgeq, br_zb, br_zb1, bV_s, bI_s, bL_s, zo_n, zo_s]; exact h.r2⟩⟩
    · rw [n_C_known, br_lt, zm_i, if_neg (by omega), br_le, h.cn, zn_i (by omega), if_pos ok.2]
    · have e : (am_w m.1 97 5 x, m.2).1 107 78 = zn n := by simp (disch := omega) only [w_ne, w_at, wl_ne, wl_at, wc_ne, wc_at, upd_at, upd_ne, upl_at, upl_ne, cpy_in0, zn_cl, zn_add, zn_mul, zn_sub, zn_pm, br_tt, br_ff, br_ltT, br_ltF, br_leT, br_leF, br_eqT, br_eqF, br_eqs, br_eqm, br_eqm', br_ltm, br_mlt, br_lem, br_mle, br_oiF, br_lgge, br_lgle, br_lggt, br_lglt, br_lgeq, br_zb, br_zb1, bV_s, bI_s, bL_s, zo_n, zo_s, h.rn]
      rw [n_M_known, e, s_isIn, zm_i, zn_i (by omega), bI_s, br_zb, if_pos (by unfold isR; exact decide_eq_true ok)]
  · refine ⟨some (.int (zn 0)), m, (am_w m.1 107 2 (zn 0), m.2), ?_, ?_, T, G, F, q, w, day, num, c2, r.qR (fqR_th m (zn 0))⟩
    · rw [n_C_known, br_lt, zm_i, br_le, h.cn, zn_i (by omega)]
      by_cases g : x.toInt < -1
      · rw [if_pos g]
      · rw [if_neg g, if_neg (by omega)]
    · rw [n_M_known, h.rn, s_isIn, zm_i, zn_i (by omega), bI_s, br_zb, if_neg (by unfold isR; rw [decide_eq_true_eq]; exact ok)]
