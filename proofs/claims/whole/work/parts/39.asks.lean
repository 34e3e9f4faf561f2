/-! questions: small ones -/
theorem io {p : Prop} [Decidable p] {a b : Int32} {m : am_M} : (if p then some (some (.int a), m) else some (some (.int b), m) : am_R) = some (some (.int (if p then a else b)), m) := by split <;> rfl
def sp_fd (f : Nat → Nat) (x : Int32) : Nat → Nat → Int32
  | 0, _ => zm
  | r + 1, i => if zn (f i) = x then zn i else sp_fd f x r (i + 1)
theorem lp_named {n d : Nat} {f : Nat → Nat} {x : Int32} {m : am_M} (hn : n ≤ 5) (h0 : m.1 27 0 = zn n) (h1 : ∀ i, i < n → m.1 28 i = zn (f i)) (r : Nat) : ∀ i g, i + r = n → r < g → r_Told_thingNamed_27_2 d g x (zn i) m = some (some (.int (sp_fd f x r i)), m) := by
  induction r with
  | zero => intro i g h2 h3; obtain ⟨g, rfl⟩ : ∃ k, g = k + 1 := ⟨g - 1, by omega⟩; rw [e_Told_thingNamed_27_2]; simp (disch := omega) only [w_ne, w_at, wl_ne, wl_at, wc_ne, wc_at, upd_at, upd_ne, upl_at, upl_ne, cpy_in0, zn_cl, zn_add, zn_mul, zn_sub, zn_pm, br_tt, br_ff, br_ltT, br_ltF, br_leT, br_leF, br_eqT, br_eqF, br_eqs, br_eqm, br_eqm', br_ltm, br_mlt, br_lem, br_mle, br_oiF, br_lgge, br_lgle, br_lggt, br_lglt, br_lgeq, br_zb, br_zb1, bV_s, bI_s, bL_s, zo_n, zo_s, h0]; rfl
  | succ r ih =>
    intro i g h2 h3; obtain ⟨g, rfl⟩ : ∃ k, g = k + 1 := ⟨g - 1, by omega⟩
    rw [e_Told_thingNamed_27_2, sp_fd]; simp (disch := omega) only [w_ne, w_at, wl_ne, wl_at, wc_ne, wc_at, upd_at, upd_ne, upl_at, upl_ne, cpy_in0, zn_cl, zn_add, zn_mul, zn_sub, zn_pm, br_tt, br_ff, br_ltT, br_ltF, br_leT, br_leF, br_eqT, br_eqF, br_eqs, br_eqm, br_eqm', br_ltm, br_mlt, br_lem, br_mle, br_oiF, br_lgge, br_lgle, br_lggt, br_lglt, br_lgeq, br_zb, br_zb1, bV_s, bI_s, bL_s, zo_n, zo_s, h0, h1]
    rw [ih (i + 1) g (by omega) (by omega), br_eq]; split <;> rfl
theorem lq_find112 {n d : Nat} {f : Nat → Nat} {x : Int32} {m : am_M} (hn : n ≤ 5) (h1 : ∀ i, i < n → m.1 112 i = zn (f i)) (r : Nat) : ∀ i g, i + r = n → r < g → r_M_find_112_3 d g (zn 0) (zn n) x (zn i) m = some (some (.int (sp_fd f x r i)), m) := by
  induction r with
  | zero => intro i g h2 h3; obtain ⟨g, rfl⟩ : ∃ k, g = k + 1 := ⟨g - 1, by omega⟩; rw [e_M_find_112_3]; simp (disch := omega) only [w_ne, w_at, wl_ne, wl_at, wc_ne, wc_at, upd_at, upd_ne, upl_at, upl_ne, cpy_in0, zn_cl, zn_add, zn_mul, zn_sub, zn_pm, br_tt, br_ff, br_ltT, br_ltF, br_leT, br_leF, br_eqT, br_eqF, br_eqs, br_eqm, br_eqm', br_ltm, br_mlt, br_lem, br_mle, br_oiF, br_lgge, br_lgle, br_lggt, br_lglt, br_lgeq, br_zb, br_zb1, bV_s, bI_s, bL_s, zo_n, zo_s]; rfl
  | succ r ih =>
    intro i g h2 h3; obtain ⟨g, rfl⟩ : ∃ k, g = k + 1 := ⟨g - 1, by omega⟩
    rw [e_M_find_112_3, sp_fd]; simp (disch := omega) only [w_ne, w_at, wl_ne, wl_at, wc_ne, wc_at, upd_at, upd_ne, upl_at, upl_ne, cpy_in0, zn_cl, zn_add, zn_mul, zn_sub, zn_pm, br_tt, br_ff, br_ltT, br_ltF, br_leT, br_leF, br_eqT, br_eqF, br_eqs, br_eqm, br_eqm', br_ltm, br_mlt, br_lem, br_mle, br_oiF, br_lgge, br_lgle, br_lggt, br_lglt, br_lgeq, br_zb, br_zb1, bV_s, bI_s, bL_s, zo_n, zo_s, h1, Nat.zero_add]
    rw [ih (i + 1) g (by omega) (by omega), br_eq]; split <;> rfl
theorem lp_turnOf {k : Nat} (hk : sc_k k) {n d : Nat} {f : Nat → Nat} {x : Int32} {m : am_M} (hn : n ≤ 5) (h0 : m.1 k 6 = zn n) (h1 : ∀ i, i < n → m.1 (k + 4) i = zn (f i)) (r : Nat) : ∀ i g, i + r = n → r < g → r_Scene_turnOf_2 k d g x (zn i) m = some (some (.int (sp_fd f x r i)), m) := by
  induction r with
  | zero => intro i g h2 h3; obtain ⟨g, rfl⟩ : ∃ k, g = k + 1 := ⟨g - 1, by omega⟩; rw [e_Scene_turnOf_2 hk]; simp (disch := omega) only [w_ne, w_at, wl_ne, wl_at, wc_ne, wc_at, upd_at, upd_ne, upl_at, upl_ne, cpy_in0, zn_cl, zn_add, zn_mul, zn_sub, zn_pm, br_tt, br_ff, br_ltT, br_ltF, br_leT, br_leF, br_eqT, br_eqF, br_eqs, br_eqm, br_eqm', br_ltm, br_mlt, br_lem, br_mle, br_oiF, br_lgge, br_lgle, br_lggt, br_lglt, br_lgeq, br_zb, br_zb1, bV_s, bI_s, bL_s, zo_n, zo_s, h0]; rfl
  | succ r ih =>
    intro i g h2 h3; obtain ⟨g, rfl⟩ : ∃ k, g = k + 1 := ⟨g - 1, by omega⟩
    rw [e_Scene_turnOf_2 hk, sp_fd]; simp (disch := omega) only [w_ne, w_at, wl_ne, wl_at, wc_ne, wc_at, upd_at, upd_ne, upl_at, upl_ne, cpy_in0, zn_cl, zn_add, zn_mul, zn_sub, zn_pm, br_tt, br_ff, br_ltT, br_ltF, br_leT, br_leF, br_eqT, br_eqF, br_eqs, br_eqm, br_eqm', br_ltm, br_mlt, br_lem, br_mle, br_oiF, br_lgge, br_lgle, br_lggt, br_lglt, br_lgeq, br_zb, br_zb1, bV_s, bI_s, bL_s, zo_n, zo_s, h0, h1]
    rw [ih (i + 1) g (by omega) (by omega), br_eq]; split <;> rfl
theorem lq_find137 {n d b : Nat} {f : Nat → Nat} {x : Int32} {m : am_M} (hb : b ≤ 5) (hn : n ≤ 5) (h1 : ∀ i, i < n → m.1 137 (b + i) = zn (f i)) (r : Nat) : ∀ i g, i + r = n → r < g → r_M_find_137_3 d g (zn b) (zn n) x (zn i) m = some (some (.int (sp_fd f x r i)), m) := by
  induction r with
  | zero => intro i g h2 h3; obtain ⟨g, rfl⟩ : ∃ k, g = k + 1 := ⟨g - 1, by omega⟩; rw [e_M_find_137_3]; simp (disch := omega) only [w_ne, w_at, wl_ne, wl_at, wc_ne, wc_at, upd_at, upd_ne, upl_at, upl_ne, cpy_in0, zn_cl, zn_add, zn_mul, zn_sub, zn_pm, br_tt, br_ff, br_ltT, br_ltF, br_leT, br_leF, br_eqT, br_eqF, br_eqs, br_eqm, br_eqm', br_ltm, br_mlt, br_lem, br_mle, br_oiF, br_lgge, br_lgle, br_lggt, br_lglt, br_lgeq, br_zb, br_zb1, bV_s, bI_s, bL_s, zo_n, zo_s]; rfl
  | succ r ih =>
    intro i g h2 h3; obtain ⟨g, rfl⟩ : ∃ k, g = k + 1 := ⟨g - 1, by omega⟩
    rw [e_M_find_137_3, sp_fd]; simp (disch := omega) only [w_ne, w_at, wl_ne, wl_at, wc_ne, wc_at, upd_at, upd_ne, upl_at, upl_ne, cpy_in0, zn_cl, zn_add, zn_mul, zn_sub, zn_pm, br_tt, br_ff, br_ltT, br_ltF, br_leT, br_leF, br_eqT, br_eqF, br_eqs, br_eqm, br_eqm', br_ltm, br_mlt, br_lem, br_mle, br_oiF, br_lgge, br_lgle, br_lggt, br_lglt, br_lgeq, br_zb, br_zb1, bV_s, bI_s, bL_s, zo_n, zo_s, h1]
    rw [ih (i + 1) g (by omega) (by omega), br_eq]; split <;> rfl
theorem k_fault (x : Int32) : ask y_C_fault y_M_fault [.int x] := by
  refine ask_of fun T G F q w day num m c r => ⟨some (.int (if x = zn 0 then m.1 0 3 else if x = zn 1 then m.1 0 4 else zm)), m, ?_, fqC_refl m, fun c1 r1 => ⟨_, ?_, fqR_th m (zn 0)⟩⟩
  · rw [n_C_fault]; simp only [br_eq]; split
    · rfl
    · split <;> rfl
  · have h := r.fa
    unfold fltI at h
    rw [n_M_fault, h.1, h.2]; simp only [br_eq]; split
    · rfl
    · split <;> rfl
theorem k_named (x : Int32) : ask y_C_named y_M_named [.int x] := by
  refine ask_of fun T G F q w day num m c r => ⟨some (.int (sp_fd (T 7) x (T 0 0) 0)), m, ?_, fqC_refl m, fun c1 r1 => ⟨_, ?_, fqR_th m (zn 0)⟩⟩
  · have := c.tw.n
    rw [n_C_named, n_Told_thingNamed_27, lp_named c.tw.n c.tc.n c.tc.lt (T 0 0) 0 29999 (by omega) (by omega), bI_s]
  · have := c.tw.n
    have c2 := c1.qR (fqR_th m (zn 0))
    rw [n_M_named, c1.tr.n, n_M_find_112, lq_find112 c.tw.n c2.tr.lt (T 0 0) 0 29999 (by omega) (by omega), bI_s]
theorem k_lamp (x y : Int32) : ask y_C_lamp y_M_lamp [.int x, .int y] := by
  refine ask_of fun T G F q w day num m c r => ?_
  have hL := c.tw.L; have ol := c.qw.ol
  have c2 := c.qR (fqR_th m (zn 0))
  have i1 := s_isLampC c.tc c.tw (d := 6) (x := x)
  have i2 := s_isLampR c2.tr c.tw (d := 6) (x := x)
  cases e : isN (T 0 1) x with
  | false =>
    refine ⟨some (.int zm), m, ?_, fqC_refl m, fun c1 r1 => ⟨_, ?_, fqR_th m (zn 0)⟩⟩
    · rw [n_C_lamp, i1, e]; rfl
    · rw [n_M_lamp, i2, e]; rfl
  | true =>
    obtain ⟨l, hl, rfl⟩ := isN_t e
    have f1 : am_c 7 y_Scene_turnOf [.ref 71, .int (zn l)] m = _ := (n_Scene_turnOf (Or.inr (Or.inr (Or.inl rfl))) 6 (zn l) m).trans (lp_turnOf (f := fun i => q.1.getD i 0) (Or.inr (Or.inr (Or.inl rfl))) (by omega) c.sc.ol c.sc.os q.1.length 0 29999 (by omega) (by omega))
    have f2 : am_c 7 y_M_find [.ref 137, .int (zn 0), .int (zn (T 0 1)), .int (zn l)] (am_w m.1 107 2 (zn 0), m.2) = _ := (n_M_find_137 6 _ _ _ _).trans (lq_find137 (f := fun i => q.1.getD i 0) (b := 0) (by omega) hL (by intro i hi; rw [Nat.zero_add]; exact c2.nr.os i hi) (T 0 1) 0 29999 (by omega) (by omega))
    rw [ol] at f1
    refine ⟨some (.int (if y = zn 0 then zn (q.2.1 l) else if y = zn 1 then zn (T 5 l) else if y = zn 2 then sp_fd (fun i => q.1.getD i 0) (zn l) (T 0 1) 0 else zm)), m, ?_, fqC_refl m, fun c1 r1 => ⟨_, ?_, fqR_th m (zn 0)⟩⟩
    · rw [n_C_lamp, i1, e, bI_s, br_zb, if_pos rfl]
      simp (disch := omega) only [br_oiF, zn_cl, bI_s, c.sc.hu, c.tc.rc, f1, br_eq, io]
    · rw [n_M_lamp, i2, e, bI_s, br_zb, if_pos rfl]
      simp (disch := omega) only [br_oiF, zn_cl, bI_s, w_ne, w_at, upd_ne, c.nr.hu, c.tr.rc, c.tr.L, f2, br_eq, io]
def sp_by (n : Nat) (o : Option Nat) : Nat := o.getD n
theorem s_countBy {T : Td} {n : Nat} {o : Option Nat} {S : Td} {m : am_M} (s : senX T n o S m) {d : Nat} : am_c (d + 1) y_Memory_countBy [.ref 97] m = some (some (.int (zn (sp_by n o))), m) := by
  have := s.n
  rw [n_Memory_countBy, s.co, s.cn]
  cases o with
  | none => simp (disch := omega) only [w_ne, w_at, wl_ne, wl_at, wc_ne, wc_at, upd_at, upd_ne, upl_at, upl_ne, cpy_in0, zn_cl, zn_add, zn_mul, zn_sub, zn_pm, br_tt, br_ff, br_ltT, br_ltF, br_leT, br_leF, br_eqT, br_eqF, br_eqs, br_eqm, br_eqm', br_ltm, br_mlt, br_lem, br_mle, br_oiF, br_lgge, br_lgle, br_lggt, br_lglt, br_lgeq, br_zb, br_zb1, bV_s, bI_s, bL_s, zo_n, zo_s]; rfl
  | some b => have := s.o b rfl; simp (disch := omega) only [w_ne, w_at, wl_ne, wl_at, wc_ne, wc_at, upd_at, upd_ne, upl_at, upl_ne, cpy_in0, zn_cl, zn_add, zn_mul, zn_sub, zn_pm, br_tt, br_ff, br_ltT, br_ltF, br_leT, br_leF, br_eqT, br_eqF, br_eqs, br_eqm, br_eqm', br_ltm, br_mlt, br_lem, br_mle, br_oiF, br_lgge, br_lgle, br_lggt, br_lglt, br_lgeq, br_zb, br_zb1, bV_s, bI_s, bL_s, zo_n, zo_s]; rfl
theorem s_knownBy {T : Td} {n : Nat} {o : Option Nat} {S : Td} {m : am_M} (s : senX T n o S m) {d : Nat} : am_c (d + 1) y_M_knownBy [.ref 107] m = some (some (.int (zn (sp_by n o))), m) := by
  have := s.n
  rw [n_M_knownBy, s.ro, s.rn]
  cases o with
  | none => simp (disch := omega) only [w_ne, w_at, wl_ne, wl_at, wc_ne, wc_at, upd_at, upd_ne, upl_at, upl_ne, cpy_in0, zn_cl, zn_add, zn_mul, zn_sub, zn_pm, br_tt, br_ff, br_ltT, br_ltF, br_leT, br_leF, br_eqT, br_eqF, br_eqs, br_eqm, br_eqm', br_ltm, br_mlt, br_lem, br_mle, br_oiF, br_lgge, br_lgle, br_lggt, br_lglt, br_lgeq, br_zb, br_zb1, bV_s, bI_s, bL_s, zo_n, zo_s]; rfl
  | some b => have := s.o b rfl; simp (disch := omega) only [w_ne, w_at, wl_ne, wl_at, wc_ne, wc_at, upd_at, upd_ne, upl_at, upl_ne, cpy_in0, zn_cl, zn_add, zn_mul, zn_sub, zn_pm, br_tt, br_ff, br_ltT, br_ltF, br_leT, br_leF, br_eqT, br_eqF, br_eqs, br_eqm, br_eqm', br_ltm, br_mlt, br_lem, br_mle, br_oiF, br_lgge, br_lgle, br_lggt, br_lglt, br_lgeq, br_zb, br_zb1, bV_s, bI_s, bL_s, zo_n, zo_s]; rfl
theorem k_count (x : Int32) : ask y_C_count y_M_count [.int x] := by
  refine ask_of fun T G F q w day num m c r => ?_
  obtain ⟨sn1, so, S, hs⟩ := r.se
  obtain ⟨dn, D, H, hd⟩ := r.de
  have r2 := r.qR (fqR_th m (zn 0))
  have hs2 : senX T sn1 so S (am_w m.1 107 2 (zn 0), m.2) := ⟨hs.n, hs.o, hs.w0, hs.w1, by simp (disch := omega) only [w_ne, w_at, wl_ne, wl_at, wc_ne, wc_at, upd_at, upd_ne, upl_at, upl_ne, cpy_in0, zn_cl, zn_add, zn_mul, zn_sub, zn_pm, br_tt, br_ff, br_ltT, br_ltF, br_leT, br_leF, br_eqT, br_eqF, br_eqs, br_eqm, br_eqm', br_ltm, br_mlt, br_lem, br_mle, br_oiF, br_lgge, br_lgle, br_lggt, br_lglt, br_lgeq, br_zb, br_zb1, bV_s, bI_s, bL_s, zo_n, zo_s, hs.cn], by simp (disch := omega) only [w_ne, w_at, wl_ne, wl_at, wc_ne, wc_at, upd_at, upd_ne, upl_at, upl_ne, cpy_in0, zn_cl, zn_add, zn_mul, zn_sub, zn_pm, br_tt, br_ff, br_ltT, br_ltF, br_leT, br_leF, br_eqT, br_eqF, br_eqs, br_eqm, br_eqm', br_ltm, br_mlt, br_lem, br_mle, br_oiF, br_lgge, br_lgle, br_lggt, br_lglt, br_lgeq, br_zb, br_zb1, bV_s, bI_s, bL_s, zo_n, zo_s, hs.co], by simp (disch := omega) only [w_ne, w_at, wl_ne, wl_at, wc_ne, wc_at, upd_at, upd_ne, upl_at, upl_ne, cpy_in0, zn_cl, zn_add, zn_mul, zn_sub, zn_pm, br_tt, br_ff, br_ltT, br_ltF, br_leT, br_leF, br_eqT, br_eqF, br_eqs, br_eqm, br_eqm', br_ltm, br_mlt, br_lem, br_mle, br_oiF, br_lgge, br_lgle, br_lggt, br_lglt, br_lgeq, br_zb, br_zb1, bV_s, bI_s, bL_s, zo_n, zo_s]; exact hs.c0, by simp (disch := omega) only [w_ne, w_at, wl_ne, wl_at, wc_ne, wc_at, upd_at, upd_ne, upl_at, upl_ne, cpy_in0, zn_cl, zn_add, zn_mul, zn_sub, zn_pm, br_tt, br_ff, br_ltT, br_ltF, br_leT, br_leF, br_eqT, br_eqF, br_eqs, br_eqm, br_eqm', br_ltm, br_mlt, br_lem, br_mle, br_oiF, br_lgge, br_lgle, br_lggt, br_lglt, br_lgeq, br_zb, br_zb1, bV_s, bI_s, bL_s, zo_n, zo_s]; exact hs.c1, by simp (disch := omega) only [w_ne, w_at, wl_ne, wl_at, wc_ne, wc_at, upd_at, upd_ne, upl_at, upl_ne, cpy_in0, zn_cl, zn_add, zn_mul, zn_sub, zn_pm, br_tt, br_ff, br_ltT, br_ltF, br_leT, br_leF, br_eqT, br_eqF, br_eqs, br_eqm, br_eqm', br_ltm, br_mlt, br_lem, br_mle, br_oiF, br_lgge, br_lgle, br_lggt, br_lglt, br_lgeq, br_zb, br_zb1, bV_s, bI_s, bL_s, zo_n, zo_s]; exact hs.c2, by simp (disch := omega) only [w_ne, w_at, wl_ne, wl_at, wc_ne, wc_at, upd_at, upd_ne, upl_at, upl_ne, cpy_in0, zn_cl, zn_add, zn_mul, zn_sub, zn_pm, br_tt, br_ff, br_ltT, br_ltF, br_leT, br_leF, br_eqT, br_eqF, br_eqs, br_eqm, br_eqm', br_ltm, br_mlt, br_lem, br_mle, br_oiF, br_lgge, br_lgle, br_lggt, br_lglt, br_lgeq, br_zb, br_zb1, bV_s, bI_s, bL_s, zo_n, zo_s, hs.rn], by simp (disch := omega) only [w_ne, w_at, wl_ne, wl_at, wc_ne, wc_at, upd_at, upd_ne, upl_at, upl_ne, cpy_in0, zn_cl, zn_add, zn_mul, zn_sub, zn_pm, br_tt, br_ff, br_ltT, br_ltF, br_leT, br_leF, br_eqT, br_eqF, br_eqs, br_eqm, br_eqm', br_ltm, br_mlt, br_lem, br_mle, br_oiF, br_lgge, br_lgle, br_lggt, br_lglt, br_lgeq, br_zb, br_zb1, bV_s, bI_s, bL_s, zo_n, zo_s, hs.ro], by simp (disch := omega) only [w_ne, w_at, wl_ne, wl_at, wc_ne, wc_at, upd_at, upd_ne, upl_at, upl_ne, cpy_in0, zn_cl, zn_add, zn_mul, zn_sub, zn_pm, br_tt, br_ff, br_ltT, br_ltF, br_leT, br_leF, br_eqT, br_eqF, br_eqs, br_eqm, br_eqm', br_ltm, br_mlt, br_lem, br_mle, br_oiF, br_lgge, br_lgle, br_lggt, br_lglt, br_lgeq, br_zb, br_zb1, bV_s, bI_s, bL_s, zo_n, zo_s]; exact hs.r1, by simp (disch := omega) only [w_ne, w_at, wl_ne, wl_at, wc_ne, wc_at, upd_at, upd_ne, upl_at, upl_ne, cpy_in0, zn_cl, zn_add, zn_mul, zn_sub, zn_pm, br_tt, br_ff, br_ltT, br_ltF, br_leT, br_leF, br_eqT, br_eqF, br_eqs, br_eqm, br_eqm', br_ltm, br_mlt, br_lem, br_mle, br_oiF, br_lgge, br_lgle, br_lggt, br_lglt, br_lgeq, br_zb, br_zb1, bV_s, bI_s, bL_s, zo_n, zo_s]; exact hs.r2⟩
  have f1 := s_countBy hs (d := 6)
  have f2 := s_knownBy hs2 (d := 6)
  refine ⟨some (.int (if x = zn 0 then zn (T 0 0) else if x = zn 1 then zn (T 0 1) else if x = zn 2 then zn q.2.2.1.length else if x = zn 3 then zn (T 0 2) else if x = zn 4 then zn (F 2 0) else if x = zn 5 then zn day else if x = zn 6 then zn w.length else if x = zn 7 then zn sn1 else if x = zn 8 then zn (sp_by sn1 so) else if x = zn 9 then zn dn else zm)), m, ?_, fqC_refl m, fun c1 r1 => ⟨_, ?_, fqR_th m (zn 0)⟩⟩
  · rw [n_C_count]
    simp only [br_eq, c.tc.n, c.tc.L, c.sc.ml, c.tc.rl, c.tc.lw.kn, c.sc.dy, c.sc.wl, hs.cn, f1, hd.cn, bI_s, io]
  · rw [n_M_count]
    simp only [br_eq, c.tr.n, c.tr.L, c.nr.ml, c.tr.rl, c.tr.kn, c.nr.dy, c.nr.wl, hs.rn, f2, hd.rn, bI_s, io]
