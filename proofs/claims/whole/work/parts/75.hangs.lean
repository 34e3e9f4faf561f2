/-! hangs: the one lamp to hang elsewhere -/
def hod (T G F : Td) (q : Sq) (w : List Nat) (day c : Nat) : Hs × List Nat := sp_pass T (V0 T) (gE G F) (sp_fu q.2.1 (c / 30) (c % 30)) day q.1 q.2.2.1 q.2.2.2 w
def hup (f : Nat → Nat) (c : Nat) (a : Nat × Option Nat) : Nat × Option Nat := if a.1 < f c then (f c, some c) else a
def hst (f : Nat → Nat) : Nat → Nat → Nat × Option Nat → Nat × Option Nat
  | 0, _, a => a
  | r + 1, c, a => hst f r (c + 1) (hup f c a)
theorem hst_add {f : Nat → Nat} (r : Nat) : ∀ (s c : Nat) (a : Nat × Option Nat), hst f (r + s) c a = hst f s (c + r) (hst f r c a) := by
  induction r with
  | zero => intro s c a; rw [Nat.zero_add]; rfl
  | succ r ih => intro s c a; rw [Nat.add_right_comm, hst, hst, ih, show c + 1 + r = c + (r + 1) from by omega]
/-- more than as it goes, if one was found -/
theorem hst_lt {f : Nat → Nat} {n : Nat} (r : Nat) : ∀ (c : Nat) (a : Nat × Option Nat), c + r ≤ n → (∀ b, a.2 = some b → b < n) → ∀ b, (hst f r c a).2 = some b → b < n := by
  induction r with
  | zero => intro c a _ h b e; exact h b e
  | succ r ih =>
    intro c a h1 h b e
    rw [hst] at e
    refine ih (c + 1) (hup f c a) (by omega) (fun b' e' => ?_) b e
    unfold hup at e'
    by_cases g : a.1 < f c
    · rw [if_pos g] at e'; cases e'; omega
    · rw [if_neg g] at e'; exact h b' e'
def hok (x : Nat) (a : Nat × Option Nat) : Prop := a.1 ≤ 5 ∧ ((a.2 = none ∧ a.1 = x) ∨ (x < a.1 ∧ ∃ c, a.2 = some c))
theorem hok_up {f : Nat → Nat} {x c : Nat} {a : Nat × Option Nat} (h : hok x a) (hf : ∀ c, f c ≤ 5) : hok x (hup f c a) := by
  unfold hup
  by_cases g : a.1 < f c
  · rw [if_pos g]
    refine ⟨hf c, Or.inr ⟨?_, c, rfl⟩⟩
    show x < f c
    rcases h.2 with q | q <;> omega
  · rw [if_neg g]; exact h
theorem near_fu {T V : Td} {E : Ev} {U : Nat → Nat} {day l p l' t : Nat} (h : l' ≠ l) : sp_near T V E (sp_fu U l p) day l' t = sp_near T V E U day l' t := by
  unfold sp_near sp_nwor sp_fu
  rw [if_neg h]
def ohy (T G F : Td) (q : Sq) (w : List Nat) (day l : Nat) (m : am_M) : Prop :=
  (cx T (V0 T) (gE G F) m)
  ∧ (sn 52 T q.1 q.2.1 q.2.2.1 (sp_gat T (V0 T) (gE G F) day q.2.2.2 w).1 (sp_gat T (V0 T) (gE G F) day q.2.2.2 w).2 day m)
  ∧ (∀ l' t, l' ≠ l → l' < T 0 1 → t < T 0 0 → m.2 51 (l' * 5 + t) = sp_near T (V0 T) (gE G F) q.2.1 day l' t)
theorem ohy.c {T G F : Td} {q : Sq} {w : List Nat} {day l : Nat} {m : am_M} (hZ : ohy T G F q w day l m) : cx T (V0 T) (gE G F) m := hZ.1
theorem ohy.s {T G F : Td} {q : Sq} {w : List Nat} {day l : Nat} {m : am_M} (hZ : ohy T G F q w day l m) : sn 52 T q.1 q.2.1 q.2.2.1 (sp_gat T (V0 T) (gE G F) day q.2.2.2 w).1 (sp_gat T (V0 T) (gE G F) day q.2.2.2 w).2 day m := hZ.2.1
theorem ohy.g {T G F : Td} {q : Sq} {w : List Nat} {day l : Nat} {m : am_M} (hZ : ohy T G F q w day l m) : ∀ l' t, l' ≠ l → l' < T 0 1 → t < T 0 0 → m.2 51 (l' * 5 + t) = sp_near T (V0 T) (gE G F) q.2.1 day l' t := hZ.2.2
def hng (a : Nat × Option Nat) (m : am_M) : Prop := m.1 25 9 = zn a.1 ∧ ∀ c, a.2 = some c → m.1 25 7 = zn (c / 30) ∧ m.1 25 8 = zn (c % 30)
def fth (m m' : am_M) : Prop := (∀ c, c ≠ 44 → c ≠ 45 → c ≠ 51 → m'.2 c = m.2 c) ∧ ∀ c, c ≠ 25 → c < 59 ∨ 65 < c → m'.1 c = m.1 c
theorem fth_refl (m : am_M) : fth m m := ⟨fun _ _ _ _ => rfl, fun _ _ _ => rfl⟩
theorem fth_tr {m m1 m2 : am_M} (h : fth m m1) (g : fth m1 m2) : fth m m2 := ⟨fun c a b e => (g.1 c a b e).trans (h.1 c a b e), fun c a e => (g.2 c a e).trans (h.2 c a e)⟩
theorem fth.q {m m' : am_M} (f : fth m m') : fqC m m' := ⟨fun c hc => f.2 c (by omega) (by omega), fun c _ => f.1 c (by omega) (by omega) (by omega)⟩
theorem s_tryHang {T G F : Td} {q : Sq} {w : List Nat} {day d l p : Nat} {a : Nat × Option Nat} {m : am_M} (W : tW T) (hE : evW (gE G F)) (Q : qW T w q) (hd : day ≤ 999) (o : ohy T G F q w day l m) (hl : l < T 0 1) (hp : p < 30) (ha : a.1 ≤ 5) (hm : hng a m) :
    ∃ m', am_c (d + 5) y_Finder_tryHang [.ref 25, .int (zn l), .int (zn p)] m = some (none, m') ∧ fth m m' ∧ ohy T G F q w day l m' ∧ hng (hup (fun c => sp_own (T 0 0) (hod T G F q w day c).1) (30 * l + p) a) m' := by
  have hk : sc_k 52 := Or.inl rfl
  have hk9 : sc_k 59 := Or.inr (Or.inl rfl)
  have hL := W.L; have ol := Q.ol; have hn5 := W.n
  have I := gat_hw (V := V0 T) (E := gE G F) (day := day) Q.hw
  have hw5 := hw_len I
  have c1 : (30 * l + p) / 30 = l := by omega
  have c2 : (30 * l + p) % 30 = p := by omega
  obtain ⟨m1, a1, a2, a3, a4⟩ := s_copy hk9 hk (by omega) W o.s (by omega) (by omega) Q.ml (d := d + 3)
  let m2 : am_M := (am_w m1.1 62 l (zn p), m1.2)
  have e2 : ∀ c, c ≠ 62 → m2.1 c = m1.1 c := fun c hc => by show (am_w m1.1 62 l (zn p)) c = _; simp (disch := omega) only [w_ne, w_at, wl_ne, wl_at, wc_ne, wc_at, upd_at, upd_ne, upl_at, upl_ne, cpy_in0, zn_cl, zn_add, zn_mul, zn_sub, zn_pm, br_tt, br_ff, br_ltT, br_ltF, br_leT, br_leF, br_eqT, br_eqF, br_eqs, br_eqm, br_eqm', br_ltm, br_mlt, br_lem, br_mle, br_oiF, br_lgge, br_lgle, br_lggt, br_lglt, br_lgeq, br_zb, br_zb1, bV_s, bI_s, bL_s, zo_n, zo_s]
  have s2 : sn 59 T q.1 (sp_fu q.2.1 l p) q.2.2.1 (sp_gat T (V0 T) (gE G F) day q.2.2.2 w).1 (sp_gat T (V0 T) (gE G F) day q.2.2.2 w).2 day m2 := by
    refine ⟨?_, ?_, ?_, ?_, ?_, ?_, ?_, ?_, ?_, ?_⟩
    · rw [e2 59 (by omega)]; exact a2.n
    · rw [e2 60 (by omega)]; exact a2.hs
    · rw [e2 59 (by omega)]; exact a2.wl
    · rw [e2 61 (by omega)]; exact a2.ws
    · rw [e2 59 (by omega)]; exact a2.dy
    · rw [e2 59 (by omega)]; exact a2.ol
    · rw [e2 63 (by omega)]; exact a2.os
    · intro l' hl'
      show (am_w m1.1 62 l (zn p)) 62 l' = zn (if l' = l then p else q.2.1 l')
      by_cases e : l' = l
      · subst e; rw [if_pos rfl]; simp (disch := omega) only [w_ne, w_at, wl_ne, wl_at, wc_ne, wc_at, upd_at, upd_ne, upl_at, upl_ne, cpy_in0, zn_cl, zn_add, zn_mul, zn_sub, zn_pm, br_tt, br_ff, br_ltT, br_ltF, br_leT, br_leF, br_eqT, br_eqF, br_eqs, br_eqm, br_eqm', br_ltm, br_mlt, br_lem, br_mle, br_oiF, br_lgge, br_lgle, br_lggt, br_lglt, br_lgeq, br_zb, br_zb1, bV_s, bI_s, bL_s, zo_n, zo_s]
      · rw [if_neg e]; simp (disch := omega) only [w_ne, w_at, wl_ne, wl_at, wc_ne, wc_at, upd_at, upd_ne, upl_at, upl_ne, cpy_in0, zn_cl, zn_add, zn_mul, zn_sub, zn_pm, br_tt, br_ff, br_ltT, br_ltF, br_leT, br_leF, br_eqT, br_eqF, br_eqs, br_eqm, br_eqm', br_ltm, br_mlt, br_lem, br_mle, br_oiF, br_lgge, br_lgle, br_lggt, br_lglt, br_lgeq, br_zb, br_zb1, bV_s, bI_s, bL_s, zo_n, zo_s]; exact a2.hu l' hl'
    · rw [e2 59 (by omega)]; exact a2.ml
    · rw [e2 64 (by omega), e2 65 (by omega)]; exact a2.ms
  have hU : ∀ l', l' < T 0 1 → sp_fu q.2.1 l p l' < 30 := fun l' h => by unfold sp_fu; have := Q.hu l' h; split <;> omega
  have S : sw T q.1 (sp_fu q.2.1 l p) q.2.2.1 day := ⟨by omega, Q.om, hU, Q.ml, fun x hx => by have := Q.ms x hx; omega, by omega⟩
  have X2 : cx T (V0 T) (gE G F) m2 := o.c.mono (fun c _ _ => by rw [e2 c (by omega), a4.2 c (by omega)])
  obtain ⟨m3, b1, b2, b3, b4, b5⟩ := s_measure hk9 W.tw hE (a := l) (b := l + 1) X2 s2 I hU (by omega) (by omega) (d := d)
  have gn : ∀ t, t < T 0 0 → (sp_gat T (V0 T) (gE G F) day q.2.2.2 w).1 t = none := fun t ht => gath_all _ _ _ (by have := Q.hw.2; omega) t ht
  have g3 : ∀ l' t, l' < T 0 1 → t < T 0 0 → m3.2 51 (l' * 5 + t) = sp_near T (V0 T) (gE G F) (sp_fu q.2.1 l p) day l' t := by
    intro l' t h1 h2
    by_cases e : l' = l
    · subst e
      rw [b4 l' t (by omega) (by omega) h2]
      exact nv_near (gn t h2)
    · rw [b5 _ (by omega), near_fu e]
      show m1.2 51 _ = _
      rw [a4.1]; exact o.g l' t e h1 h2
  obtain ⟨m4, d1, d2, d3⟩ := s_finishx hk9 W.tw S (X2.same b2) (s2.same b2) I (d := d) g3
  have I' := fin_hw (V := V0 T) (E := gE G F) (U := sp_fu q.2.1 l p) (day := day) (ord := q.1) S.ms I
  have ho : (sp_fin T (V0 T) (gE G F) (sp_fu q.2.1 l p) day q.1 q.2.2.1 ((sp_gat T (V0 T) (gE G F) day q.2.2.2 w).1, (sp_gat T (V0 T) (gE G F) day q.2.2.2 w).2)).1 = (hod T G F q w day (30 * l + p)).1 := by
    unfold hod; rw [c1, c2]; rfl
  have o1 := s_countOwn hk9 (d := d + 3) hn5 d2.n d2.dd I'
  rw [ho] at o1
  have ole : sp_own (T 0 0) (hod T G F q w day (30 * l + p)).1 ≤ T 0 0 := own_le
  have e4 : ∀ c, c < 59 ∨ 65 < c → m4.1 c = m.1 c := fun c hc => by rw [d3.2.1 c (by omega) (by omega) (by omega), b2, e2 c (by omega), a4.2 c (by omega)]
  have l4 : ∀ c, c ≠ 44 → c ≠ 45 → c ≠ 51 → m4.2 c = m.2 c := fun c c1 c2 c3 => by rw [d3.1, b3 c c1 c2 c3]; show m1.2 c = _; rw [a4.1]
  have b1' : am_c (d + 4) y_Day_measure [.ref 26, .ref 59, .int (zn l), .int (zn (l + 1))] (am_w m1.1 62 l (zn p), m1.2) = some (none, m3) := b1
  have run : am_c (d + 5) y_Finder_tryHang [.ref 25, .int (zn l), .int (zn p)] m = am_b (am_le (zn (sp_own (T 0 0) (hod T G F q w day (30 * l + p)).1)) (zn a.1)) (some (none, m4)) (some (none, (am_w (am_w (am_w m4.1 25 9 (zn (sp_own (T 0 0) (hod T G F q w day (30 * l + p)).1))) 25 7 (zn l)) 25 8 (zn p), m4.2))) := by
    rw [n_Finder_tryHang, a1, bV_s, br_oiF (by omega) (by omega), zn_cl (by omega), zn_add, b1', bV_s, d1, bV_s, o1, bI_s, e4 25 (by omega), hm.1]
  have g4 : ∀ l' t, l' ≠ l → l' < T 0 1 → t < T 0 0 → m4.2 51 (l' * 5 + t) = sp_near T (V0 T) (gE G F) q.2.1 day l' t := fun l' t h1 h2 h3 => by rw [d3.1, g3 l' t h2 h3, near_fu h1]
  rw [run]
  unfold hup
  by_cases g : a.1 < sp_own (T 0 0) (hod T G F q w day (30 * l + p)).1
  · rw [if_pos g, br_leF g (by omega)]
    refine ⟨_, rfl, ⟨l4, fun c c1 c2 => by simp (disch := omega) only [w_ne, w_at, wl_ne, wl_at, wc_ne, wc_at, upd_at, upd_ne, upl_at, upl_ne, cpy_in0, zn_cl, zn_add, zn_mul, zn_sub, zn_pm, br_tt, br_ff, br_ltT, br_ltF, br_leT, br_leF, br_eqT, br_eqF, br_eqs, br_eqm, br_eqm', br_ltm, br_mlt, br_lem, br_mle, br_oiF, br_lgge, br_lgle, br_lggt, br_lglt, br_lgeq, br_zb, br_zb1, bV_s, bI_s, bL_s, zo_n, zo_s]; exact e4 c c2⟩, ⟨o.c.mono (fun c _ _ => by simp (disch := omega) only [w_ne, w_at, wl_ne, wl_at, wc_ne, wc_at, upd_at, upd_ne, upl_at, upl_ne, cpy_in0, zn_cl, zn_add, zn_mul, zn_sub, zn_pm, br_tt, br_ff, br_ltT, br_ltF, br_leT, br_leF, br_eqT, br_eqF, br_eqs, br_eqm, br_eqm', br_ltm, br_mlt, br_lem, br_mle, br_oiF, br_lgge, br_lgle, br_lggt, br_lglt, br_lgeq, br_zb, br_zb1, bV_s, bI_s, bL_s, zo_n, zo_s]; exact e4 c (by omega)), o.s.mono (fun c _ _ => by simp (disch := omega) only [w_ne, w_at, wl_ne, wl_at, wc_ne, wc_at, upd_at, upd_ne, upl_at, upl_ne, cpy_in0, zn_cl, zn_add, zn_mul, zn_sub, zn_pm, br_tt, br_ff, br_ltT, br_ltF, br_leT, br_leF, br_eqT, br_eqF, br_eqs, br_eqm, br_eqm', br_ltm, br_mlt, br_lem, br_mle, br_oiF, br_lgge, br_lgle, br_lggt, br_lglt, br_lgeq, br_zb, br_zb1, bV_s, bI_s, bL_s, zo_n, zo_s]; exact e4 c (by omega)), g4⟩, ?_, fun c e => ?_⟩
    · simp (disch := omega) only [w_ne, w_at, wl_ne, wl_at, wc_ne, wc_at, upd_at, upd_ne, upl_at, upl_ne, cpy_in0, zn_cl, zn_add, zn_mul, zn_sub, zn_pm, br_tt, br_ff, br_ltT, br_ltF, br_leT, br_leF, br_eqT, br_eqF, br_eqs, br_eqm, br_eqm', br_ltm, br_mlt, br_lem, br_mle, br_oiF, br_lgge, br_lgle, br_lggt, br_lglt, br_lgeq, br_zb, br_zb1, bV_s, bI_s, bL_s, zo_n, zo_s]
    · cases e
      rw [c1, c2]; simp (disch := omega) only [w_ne, w_at, wl_ne, wl_at, wc_ne, wc_at, upd_at, upd_ne, upl_at, upl_ne, cpy_in0, zn_cl, zn_add, zn_mul, zn_sub, zn_pm, br_tt, br_ff, br_ltT, br_ltF, br_leT, br_leF, br_eqT, br_eqF, br_eqs, br_eqm, br_eqm', br_ltm, br_mlt, br_lem, br_mle, br_oiF, br_lgge, br_lgle, br_lggt, br_lglt, br_lgeq, br_zb, br_zb1, bV_s, bI_s, bL_s, zo_n, zo_s, and_self]
  · rw [if_neg g, br_leT (by omega) (by omega)]
    refine ⟨m4, rfl, ⟨l4, fun c _ c2 => e4 c c2⟩, ⟨o.c.mono (fun c _ _ => e4 c (by omega)), o.s.mono (fun c _ _ => e4 c (by omega)), g4⟩, ?_, ?_⟩
    · rw [e4 25 (by omega)]; exact hm.1
    · rw [e4 25 (by omega)]; exact hm.2
theorem own5 {T G F : Td} {q : Sq} {w : List Nat} {day : Nat} (W : tW T) : ∀ c, (fun c => sp_own (T 0 0) (hod T G F q w day c).1) c ≤ 5 := fun c => Nat.le_trans own_le W.n
theorem lp_hg1 {T G F : Td} {q : Sq} {w : List Nat} {day d l x : Nat} (W : tW T) (hE : evW (gE G F)) (Q : qW T w q) (hd : day ≤ 999) (hl : l < T 0 1) (r : Nat) :
    ∀ (p f : Nat) (a : Nat × Option Nat) (m : am_M), p + r = 30 → r < f → ohy T G F q w day l m → hok x a → hng a m →
    ∃ f' m', r_Finder_findHang_56 71 (d + 5) f (zn x) (zn l) (zn p) m = r_Finder_findHang_56 71 (d + 5) (f' + 1) (zn x) (zn l) (zn 30) m' ∧ f ≤ f' + r + 1 ∧ fth m m' ∧ ohy T G F q w day l m' ∧ hok x (hst (fun c => sp_own (T 0 0) (hod T G F q w day c).1) r (30 * l + p) a) ∧ hng (hst (fun c => sp_own (T 0 0) (hod T G F q w day c).1) r (30 * l + p) a) m' := by
  have hk : sc_k 71 := Or.inr (Or.inr (Or.inl rfl))
  have hL := W.L
  induction r with
  | zero =>
    intro p f a m h1 h2 o ha hm
    refine ⟨f - 1, m, ?_, by omega, fth_refl m, o, ha, hm⟩
    rw [Nat.sub_add_cancel (by omega), show p = 30 from by omega]
  | succ r ih =>
    intro p f a m h1 h2 o ha hm
    obtain ⟨f, rfl⟩ : ∃ g, f = g + 1 := ⟨f - 1, by omega⟩
    obtain ⟨m1, a1, a2, a3, a4⟩ := s_tryHang (d := d) (p := p) W hE Q hd o hl (by omega) ha.1 hm
    obtain ⟨f', m', b1, b0, b2, b3, b4, b5⟩ := ih (p + 1) f _ m1 (by omega) (by omega) a3 (hok_up ha (own5 W)) a4
    refine ⟨f', m', ?_, by omega, fth_tr a2 b2, b3, b4, b5⟩
    rw [e_Finder_findHang_56 hk, br_ltF (by omega) (by omega), a1, bV_s, zn_add, b1]
theorem lp_hg {T G F : Td} {q : Sq} {w : List Nat} {day d x : Nat} (W : tW T) (hE : evW (gE G F)) (Q : qW T w q) (hd : day ≤ 999) (r : Nat) :
    ∀ (l f : Nat) (a : Nat × Option Nat) (x4 : Option Value) (m : am_M), l + r = T 0 1 → 40 * r < f → ory T G F q w day m → hok x a → hng a m →
    ∃ m', r_Finder_findHang_42 71 (d + 5) f (zn x) (zn l) x4 m = some (some (.int (zb (hst (fun c => sp_own (T 0 0) (hod T G F q w day c).1) (30 * r) (30 * l) a).2.isSome)), m') ∧ fth m m' ∧ hok x (hst (fun c => sp_own (T 0 0) (hod T G F q w day c).1) (30 * r) (30 * l) a) ∧ hng (hst (fun c => sp_own (T 0 0) (hod T G F q w day c).1) (30 * r) (30 * l) a) m' := by
  have hk : sc_k 71 := Or.inr (Or.inr (Or.inl rfl))
  have hk2 : sc_k 52 := Or.inl rfl
  have hL := W.L; have hn5 := W.n
  induction r with
  | zero =>
    intro l f a x4 m h1 h2 o ha hm
    obtain ⟨f, rfl⟩ : ∃ g, f = g + 1 := ⟨f - 1, by omega⟩
    refine ⟨m, ?_, fth_refl m, ha, hm⟩
    have h5 := ha.1
    rw [e_Finder_findHang_42 hk, o.c.L, br_leT (by omega) (by omega), hm.1]
    show am_b (am_le (zn a.1) (zn x)) _ _ = some (some (Value.int (zb a.2.isSome)), m)
    rcases ha.2 with ⟨q1, q2⟩ | ⟨q1, c, q2⟩
    · rw [br_leT (by omega) (by omega), q1]; rfl
    · rw [br_leF q1 (by omega), q2]; rfl
  | succ r ih =>
    intro l f a x4 m h1 h2 o ha hm
    obtain ⟨f, rfl⟩ : ∃ g, f = g + 1 := ⟨f - 1, by omega⟩
    obtain ⟨f1, m1, a1, a0, a2, a3, a4, a5⟩ := lp_hg1 (d := d) (l := l) (x := x) W hE Q hd (by omega) 30 0 f a m (by omega) (by omega) ⟨o.c, o.s, fun l' t _ h2 h3 => o.g l' t h2 h3⟩ ha hm
    rw [Nat.add_zero] at a4 a5
    have I := gat_hw (V := V0 T) (E := gE G F) (day := day) Q.hw
    obtain ⟨m2, b1, b2, b3, b4, b5⟩ := s_measure hk2 W.tw hE (a := l) (b := l + 1) a3.c a3.s I Q.hu (by omega) (by omega) (d := d + 1)
    have gn : ∀ t, t < T 0 0 → (sp_gat T (V0 T) (gE G F) day q.2.2.2 w).1 t = none := fun t ht => gath_all _ _ _ (by have := Q.hw.2; omega) t ht
    have o2 : ory T G F q w day m2 := ⟨a3.c.same b2, a3.s.same b2, fun l' t h1 h2 => by
      by_cases e : l' = l
      · subst e; rw [b4 l' t (by omega) (by omega) h2]; exact nv_near (gn t h2)
      · rw [b5 _ (by omega)]; exact a3.g l' t e h1 h2⟩
    have f2 : fth m1 m2 := ⟨b3, fun c _ _ => by rw [b2]⟩
    obtain ⟨m', d1, d2, d3, d4⟩ := ih (l + 1) f1 _ (some (.int (zn 30))) m2 (by omega) (by omega) o2 a4 ⟨by rw [b2]; exact a5.1, by rw [b2]; exact a5.2⟩
    have eh : hst (fun c => sp_own (T 0 0) (hod T G F q w day c).1) (30 * (r + 1)) (30 * l) a = hst (fun c => sp_own (T 0 0) (hod T G F q w day c).1) (30 * r) (30 * (l + 1)) (hst (fun c => sp_own (T 0 0) (hod T G F q w day c).1) 30 (30 * l) a) := by
      rw [show 30 * (r + 1) = 30 + 30 * r from by omega, hst_add, show 30 * l + 30 = 30 * (l + 1) from by omega]
    rw [eh]
    refine ⟨m', ?_, fth_tr a2 (fth_tr f2 d2), d3, d4⟩
    rw [e_Finder_findHang_42 hk, o.c.L, br_leF (by omega) (by omega), a1, e_Finder_findHang_56 hk, br_ltT (by omega) (by omega), zn_add, b1, bV_s, d1]
/-! the reference -/
def zh (g : Nat → Nat) : Option Nat → Int32
  | none => zq
  | some c => zn (g c)
theorem lq_hg {T G F : Td} {q : Sq} {w : List Nat} {day num d x : Nat} {x1 : Int32} (W : tW T) (gw : gW G F) (hE : evW (gE G F)) (Q : qW T w q) (hd : day ≤ 999) (r : Nat) :
    ∀ (c f : Nat) (a : Nat × Option Nat) (m : am_M), c + r = 30 * T 0 1 → r < f → tR T G F m → nR T q.1 q.2.1 q.2.2.1 q.2.2.2 w day num m → hok x a →
    ∃ m', r_M_hangs_42 (d + 6) f x1 (zn a.1) (zh (· / 30) a.2) (zh (· % 30) a.2) (zn c) m = am_b (am_eq x1 (zn 0)) (some (some (.int (zh (· / 30) (hst (fun c => sp_own (T 0 0) (hod T G F q w day c).1) r c a).2)), m')) (am_b (am_eq x1 (zn 1)) (some (some (.int (zh (· % 30) (hst (fun c => sp_own (T 0 0) (hod T G F q w day c).1) r c a).2)), m')) (am_b (am_le (zn 0) (zh (· / 30) (hst (fun c => sp_own (T 0 0) (hod T G F q w day c).1) r c a).2)) (some (some (.int (zn (hst (fun c => sp_own (T 0 0) (hod T G F q w day c).1) r c a).1)), m')) (some (some (.int zq), m')))) ∧ fqR m m' := by
  have hw5 := hw_len Q.hw; have hn5 := W.n; have hL := W.L
  induction r with
  | zero =>
    intro c f a m h1 h2 tr s ha
    obtain ⟨f, rfl⟩ : ∃ g, f = g + 1 := ⟨f - 1, by omega⟩
    refine ⟨m, ?_, fqR_refl m⟩
    rw [e_M_hangs_42, tr.L, zn_mul, br_leT (by omega) (by omega)]; rfl
  | succ r ih =>
    intro c f a m h1 h2 tr s ha
    obtain ⟨f, rfl⟩ : ∃ g, f = g + 1 := ⟨f - 1, by omega⟩
    have hc30 : c / 30 < T 0 1 := by omega
    obtain ⟨m1, a1, a2, a3, a4, a5, a6⟩ := s_layT2 W tr s (by omega) (fun l hl => by have := Q.om l hl; omega) (d := d + 4)
    have c1 := tr.q a4
    let m2 : am_M := (am_w (am_w m1.1 107 65 (zn (c / 30))) 107 66 (zn (c % 30)), m1.2)
    have e2 : ∀ p, p ≠ 107 → m2.1 p = m1.1 p := fun p hp => by show (am_w (am_w m1.1 107 65 (zn (c / 30))) 107 66 (zn (c % 30))) p = _; simp (disch := omega) only [w_ne, w_at, wl_ne, wl_at, wc_ne, wc_at, upd_at, upd_ne, upl_at, upl_ne, cpy_in0, zn_cl, zn_add, zn_mul, zn_sub, zn_pm, br_tt, br_ff, br_ltT, br_ltF, br_leT, br_leF, br_eqT, br_eqF, br_eqs, br_eqm, br_eqm', br_ltm, br_mlt, br_lem, br_mle, br_oiF, br_lgge, br_lgle, br_lggt, br_lglt, br_lgeq, br_zb, br_zb1, bV_s, bI_s, bL_s, zo_n, zo_s]
    have e7 : ∀ i, i ≠ 65 → i ≠ 66 → m2.1 107 i = m1.1 107 i := fun i h1 h2 => by show (am_w (am_w m1.1 107 65 (zn (c / 30))) 107 66 (zn (c % 30))) 107 i = _; simp (disch := omega) only [w_ne, w_at, wl_ne, wl_at, wc_ne, wc_at, upd_at, upd_ne, upl_at, upl_ne, cpy_in0, zn_cl, zn_add, zn_mul, zn_sub, zn_pm, br_tt, br_ff, br_ltT, br_ltF, br_leT, br_leF, br_eqT, br_eqF, br_eqs, br_eqm, br_eqm', br_ltm, br_mlt, br_lem, br_mle, br_oiF, br_lgge, br_lgle, br_lggt, br_lglt, br_lgeq, br_zb, br_zb1, bV_s, bI_s, bL_s, zo_n, zo_s]
    have e65 : m2.1 107 65 = zn (c / 30) := by show (am_w (am_w m1.1 107 65 (zn (c / 30))) 107 66 (zn (c % 30))) 107 65 = _; simp (disch := omega) only [w_ne, w_at, wl_ne, wl_at, wc_ne, wc_at, upd_at, upd_ne, upl_at, upl_ne, cpy_in0, zn_cl, zn_add, zn_mul, zn_sub, zn_pm, br_tt, br_ff, br_ltT, br_ltF, br_leT, br_leF, br_eqT, br_eqF, br_eqs, br_eqm, br_eqm', br_ltm, br_mlt, br_lem, br_mle, br_oiF, br_lgge, br_lgle, br_lggt, br_lglt, br_lgeq, br_zb, br_zb1, bV_s, bI_s, bL_s, zo_n, zo_s]
    have e66 : m2.1 107 66 = zn (c % 30) := by show (am_w (am_w m1.1 107 65 (zn (c / 30))) 107 66 (zn (c % 30))) 107 66 = _; simp (disch := omega) only [w_ne, w_at, wl_ne, wl_at, wc_ne, wc_at, upd_at, upd_ne, upl_at, upl_ne, cpy_in0, zn_cl, zn_add, zn_mul, zn_sub, zn_pm, br_tt, br_ff, br_ltT, br_ltF, br_leT, br_leF, br_eqT, br_eqF, br_eqs, br_eqm, br_eqm', br_ltm, br_mlt, br_lem, br_mle, br_oiF, br_lgge, br_lgle, br_lggt, br_lglt, br_lgeq, br_zb, br_zb1, bV_s, bI_s, bL_s, zo_n, zo_s]
    have f2 : fqR m1 m2 := ⟨fun p hp => e2 p (by omega), fun i _ => by rw [e2 132 (by omega), e2 133 (by omega), e2 137 (by omega)]; exact ⟨rfl, rfl, rfl⟩, by rw [e2 134 (by omega)], by rw [e2 135 (by omega)], fun i hi => e7 i (by omega) (by omega), fun _ _ => rfl, rfl, rfl⟩
    have R := c1.rx a2 W gw
    have R2 : rx T (V0 T) (gE G F) m2 := by
      refine ⟨?_, ?_, ?_, ?_, ?_, ?_, ?_, ?_, ?_, ?_⟩
      · rw [e7 12 (by omega) (by omega)]; exact R.n
      · rw [e7 13 (by omega) (by omega)]; exact R.L
      · rw [e2 113 (by omega)]; exact R.pl
      · rw [e2 114 (by omega)]; exact R.sz
      · rw [e2 111 (by omega)]; exact R.fg
      · rw [e7 59 (by omega) (by omega)]; exact R.rl
      · rw [e2 140 (by omega)]; exact R.cm
      · rw [e7 63 (by omega) (by omega), e7 62 (by omega) (by omega), e2 117 (by omega)]; exact R.hw
      · rw [e7 61 (by omega) (by omega), e2 119 (by omega)]; exact R.rc
      · exact lwR_mono R.lw (fun p _ _ => e2 p (by omega))
    have hn2 := s.q (by omega) W a4
    have s2 : rn 1 T q.1 (sp_fu q.2.1 (c / 30) (c % 30)) q.2.2.1 q.2.2.2 w day m2 := by
      refine ⟨?_, ?_, ?_, ?_, ?_, ?_, ?_, ?_⟩
      · rw [e2 132 (by omega)]; exact a3.hs
      · rw [e2 134 (by omega)]; exact a3.wl
      · rw [e2 133 (by omega)]; exact a3.ws
      · rw [e2 135 (by omega)]; exact a3.dy
      · rw [e2 137 (by omega), e7 64 (by omega) (by omega)]; exact a3.os
      · intro l hl
        rw [e65, e66, e2 136 (by omega)]
        unfold sp_fu
        by_cases e : l = c / 30
        · rw [if_pos e]; exact Or.inl ⟨by rw [e], rfl⟩
        · rw [if_neg e]; exact Or.inr ⟨by rw [ne_eq, zn_inj (by omega) (by omega)]; exact e, hn2.hu l hl⟩
      · rw [e7 60 (by omega) (by omega), e7 55 (by omega) (by omega), e2 138 (by omega), e2 139 (by omega)]; exact a3.ms
      · rw [e2 132 (by omega)]; exact a3.h5
    have hU : ∀ l', l' < T 0 1 → sp_fu q.2.1 (c / 30) (c % 30) l' < 30 := fun l' h => by unfold sp_fu; have := Q.hu l' h; split <;> omega
    have S : sw T q.1 (sp_fu q.2.1 (c / 30) (c % 30)) q.2.2.1 day := ⟨by have := Q.ol; omega, Q.om, hU, Q.ml, fun x hx => by have := Q.ms x hx; omega, by omega⟩
    obtain ⟨m3, b1, b2, b3⟩ := s_goOn (b := 1) (by omega) W.tw hE S R2 s2 Q.hw (d := d)
    have f3 := fqR_tr a4 (fqR_tr f2 b3.q)
    have tr3 := tr.q f3
    have s3 := s.q (by omega) W f3
    have I' : hwI (T 0 0) (hod T G F q w day c).1 (hod T G F q w day c).2 := pass_hw S.ms Q.hw
    have o1 := s_ownIn (b := 1) (d := d + 5) (by omega) hn5 tr3.n (h := (hod T G F q w day c).1) b2.hs I'
    have ole : sp_own (T 0 0) (hod T G F q w day c).1 ≤ T 0 0 := own_le
    have b1' : am_c (d + 6) y_M_goOn [.ref 107, .int (zn 1), .int (zn 0)] (am_w (am_w m1.1 107 65 (zn (c / 30))) 107 66 (zn (c % 30)), m1.2) = some (none, m3) := b1
    have h5 := ha.1
    rw [e_M_hangs_42, tr.L, zn_mul, br_leF (by omega) (by omega), a1, bV_s, zn_div (by omega) (by omega), zn_rem (by omega) (by omega), b1', bV_s, o1, bI_s, o1, bI_s, zn_add, hst]
    by_cases g : a.1 < sp_own (T 0 0) (hod T G F q w day c).1
    · obtain ⟨m', d1, d2⟩ := ih (c + 1) f (sp_own (T 0 0) (hod T G F q w day c).1, some c) m3 (by omega) (by omega) tr3 s3 (by have := hok_up (c := c) ha (own5 (T := T) (G := G) (F := F) (q := q) (w := w) (day := day) W); unfold hup at this; rw [if_pos g] at this; exact this)
      rw [br_ltT g (by omega)]
      have eu : hup (fun c => sp_own (T 0 0) (hod T G F q w day c).1) c a = (sp_own (T 0 0) (hod T G F q w day c).1, some c) := if_pos g
      rw [eu]
      exact ⟨m', d1, fqR_tr f3 d2⟩
    · obtain ⟨m', d1, d2⟩ := ih (c + 1) f a m3 (by omega) (by omega) tr3 s3 ha
      have eu : hup (fun c => sp_own (T 0 0) (hod T G F q w day c).1) c a = a := if_neg g
      rw [br_ltF (by omega) (by omega), eu]
      exact ⟨m', d1, fqR_tr f3 d2⟩
theorem k_hangs (x : Int32) : ask y_C_hangs y_M_hangs [.int x] := by
  refine ask_of fun T G F q w day num m c r => ?_
  have hE := gE_evW c.gw c.gf
  have hk : sc_k 71 := Or.inr (Or.inr (Or.inl rfl))
  have hk2 : sc_k 52 := Or.inl rfl
  have hk9 : sc_k 59 := Or.inr (Or.inl rfl)
  have hL := c.tw.L; have hn5 := c.tw.n; have ol := c.qw.ol; have hw5 := hw_len c.qw.hw; have hdb := c.db
  cases e : isR (0 : Nat) (2 : Nat) x with
  | false =>
    refine ⟨some (.int zm), m, ?_, fqC_refl m, fun c1 r1 => ⟨_, ?_, fqR_th m (zn 0)⟩⟩
    · rw [n_C_hangs, isR_le (by omega) (by omega), e, if_neg (by simp)]
    · rw [n_M_hangs, s_isInN (by omega) (by omega), e]; rfl
  | true =>
    obtain ⟨k, _, k2, rfl⟩ := isR_t e
    have S := c.qw.sw c.tw (day := day) (by omega)
    have I := gat_hw (V := V0 T) (E := gE G F) (day := day) c.qw.hw
    have hw2 := hw_len I
    obtain ⟨m1, a1, a2, a3, a4, a5⟩ := s_prepare c (d := 1)
    have c1 := c.qC a5
    have X1 := c1.tc.cx c.gw
    obtain ⟨m2, b1, b2, b3, b4⟩ := s_copy hk9 hk2 (by omega) c.tw a2 (by omega) (by omega) c.qw.ml (d := 5)
    obtain ⟨m3, d1, d2, d3⟩ := s_finishx hk9 c.tw.tw S (X1.mono (fun p _ _ => b4.2 p (by omega))) b2 I (d := 2) (by intro l t h1 h2; rw [b4.1]; exact a3 l t h1 h2)
    have I3 := fin_hw (V := V0 T) (E := gE G F) (U := q.2.1) (day := day) (ord := q.1) S.ms I
    have o1 := s_countOwn hk9 (d := 5) hn5 d2.n d2.dd I3
    have ole : sp_own (T 0 0) (sp_pass T (V0 T) (gE G F) q.2.1 day q.1 q.2.2.1 q.2.2.2 w).1 ≤ T 0 0 := own_le
    let x0 := sp_own (T 0 0) (sp_pass T (V0 T) (gE G F) q.2.1 day q.1 q.2.2.1 q.2.2.2 w).1
    let m4 : am_M := (am_w m3.1 25 9 (zn x0), m3.2)
    have f14 : fth m1 m4 := ⟨fun p _ _ _ => by show m3.2 p = _; rw [d3.1, b4.1], fun p p1 p2 => by show (am_w m3.1 25 9 (zn x0)) p = _; simp (disch := omega) only [w_ne, w_at, wl_ne, wl_at, wc_ne, wc_at, upd_at, upd_ne, upl_at, upl_ne, cpy_in0, zn_cl, zn_add, zn_mul, zn_sub, zn_pm, br_tt, br_ff, br_ltT, br_ltF, br_leT, br_leF, br_eqT, br_eqF, br_eqs, br_eqm, br_eqm', br_ltm, br_mlt, br_lem, br_mle, br_oiF, br_lgge, br_lgle, br_lggt, br_lglt, br_lgeq, br_zb, br_zb1, bV_s, bI_s, bL_s, zo_n, zo_s]; rw [d3.2.1 p (by omega) (by omega) (by omega), b4.2 p (by omega)]⟩
    have o4 : ory T G F q w day m4 := ⟨X1.mono (fun p _ _ => f14.2 p (by omega) (by omega)), a2.mono (fun p _ _ => f14.2 p (by omega) (by omega)), fun l t h1 h2 => by show m3.2 51 _ = _; rw [d3.1, b4.1]; exact a3 l t h1 h2⟩
    have hx0 : x0 ≤ 5 := Nat.le_trans ole hn5
    have hok0 : hok x0 (x0, none) := ⟨hx0, Or.inl ⟨rfl, rfl⟩⟩
    obtain ⟨m5, g1, g2, g3, g4⟩ := lp_hg (d := 1) (x := x0) c.tw hE c.qw c.db (T 0 1) 0 29999 (x0, none) none m4 (by omega) (by omega) o4 hok0 ⟨by show (am_w m3.1 25 9 (zn x0)) 25 9 = _; simp (disch := omega) only [w_ne, w_at, wl_ne, wl_at, wc_ne, wc_at, upd_at, upd_ne, upl_at, upl_ne, cpy_in0, zn_cl, zn_add, zn_mul, zn_sub, zn_pm, br_tt, br_ff, br_ltT, br_ltF, br_leT, br_leF, br_eqT, br_eqF, br_eqs, br_eqm, br_eqm', br_ltm, br_mlt, br_lem, br_mle, br_oiF, br_lgge, br_lgle, br_lggt, br_lglt, br_lgeq, br_zb, br_zb1, bV_s, bI_s, bL_s, zo_n, zo_s], fun c e => by cases e⟩
    rw [Nat.mul_zero] at g1 g3 g4
    have fq5 : fqC m m5 := fqC_tr a5 (fqC_tr f14.q g2.q)
    have g1' : am_c 7 y_Finder_findHang [.ref 25, .ref 71] m = some (some (.int (zb (hst (fun c => sp_own (T 0 0) (hod T G F q w day c).1) (30 * T 0 1) 0 (x0, none)).2.isSome)), m5) := by
      have o1' : am_c 6 y_Scene_countOwn [.ref 59] m3 = some (some (.int (zn x0)), m3) := o1
      rw [n_Finder_findHang hk, a1, bV_s, b1, bV_s, d1, bV_s, o1', bI_s]; exact g1
    obtain ⟨res, hres⟩ : ∃ res, res = hst (fun c => sp_own (T 0 0) (hod T G F q w day c).1) (30 * T 0 1) 0 (x0, none) := ⟨_, rfl⟩
    rw [← hres] at g1' g3 g4
    refine ⟨some (.int (match res.2 with | none => zq | some b => if k = 0 then zn (b / 30) else if k = 1 then zn (b % 30) else zn res.1)), m5, ?_, fq5, fun c6 r6 => ?_⟩
    · rw [n_C_hangs, isR_le (by omega) (by omega), e, if_pos rfl, g1', bI_s]
      cases g : res.2 with
      | none => rfl
      | some b =>
        have h4 := g4.2 b g
        rw [h4.1, h4.2, g4.1]
        show am_b (am_eq (zn 1) (zn 0)) _ _ = some (some (Value.int (if k = 0 then zn (b / 30) else if k = 1 then zn (b % 30) else zn res.1)), m5)
        rw [br_eqF (by omega) (by omega) (by omega)]
        by_cases q0 : k = 0
        · rw [br_eqT q0, if_pos q0]
        · rw [br_eqF q0 (by omega) (by omega), if_neg q0]
          by_cases q1 : k = 1
          · rw [br_eqT q1, if_pos q1]
          · rw [br_eqF q1 (by omega) (by omega), if_neg q1]
    · have c7 := c6.qR (fqR_th m5 (zn 0))
      obtain ⟨m8, j1, j2, j3, j4⟩ := s_layT c.tw c7.tr c7.nr (by omega) (fun l hl => by have := c.qw.om l hl; omega) (d := 5)
      have c8 := c7.qR j4
      obtain ⟨m9, i1, i2, i3⟩ := s_goOn (b := 1) (by omega) c.tw.tw hE S (c8.tr.rx j2 c.tw c.gw) j3 c.qw.hw (d := 1)
      have f9 := fqR_tr j4 i3.q
      have c9 := c7.qR f9
      have I9 := pass_hw (V := V0 T) (E := gE G F) (U := q.2.1) (day := day) (ord := q.1) S.ms c.qw.hw
      have o9 := s_ownIn (b := 1) (d := 6) (by omega) hn5 c9.tr.n i2.hs I9
      obtain ⟨m10, l1, l2⟩ := lq_hg (d := 1) (x := x0) (x1 := zn k) c.tw c.gw hE c.qw c.db (30 * T 0 1) 0 29999 (x0, none) m9 (by omega) (by omega) c9.tr c9.nr hok0
      rw [← hres] at l1
      have l1' : r_M_hangs_42 7 29999 (zn k) (zn (sp_own (T 0 0) (sp_pass T (V0 T) (gE G F) q.2.1 day q.1 q.2.2.1 q.2.2.2 w).1)) zq zq (zn 0) m9 = _ := l1
      refine ⟨m10, ?_, fqR_tr (fqR_th m5 (zn 0)) (fqR_tr f9 l2)⟩
      rw [n_M_hangs, s_isInN (by omega) (by omega), e, bI_s, br_zb, if_pos rfl, j1, bV_s, i1, bV_s, o9, bI_s, l1']
      have e2 : zq.toInt = -2 := by decide +kernel
      cases g : res.2 with
      | none =>
        rw [zh, zh, br_le, e2, zn_i (by omega), if_neg (by omega)]
        by_cases q0 : k = 0
        · rw [br_eqT q0]
        · rw [br_eqF q0 (by omega) (by omega)]
          by_cases q1 : k = 1
          · rw [br_eqT q1]
          · rw [br_eqF q1 (by omega) (by omega)]
      | some b =>
        have hb : b / 30 < 2147483648 := by
          have := hst_lt (f := fun c => sp_own (T 0 0) (hod T G F q w day c).1) (n := 30 * T 0 1) (30 * T 0 1) 0 (x0, none) (by omega) (fun b e => by cases e) b (by rw [← hres]; exact g)
          omega
        show am_b (am_eq (zn k) (zn 0)) (some (some (Value.int (zn (b / 30))), m10)) (am_b (am_eq (zn k) (zn 1)) (some (some (Value.int (zn (b % 30))), m10)) (am_b (am_le (zn 0) (zn (b / 30))) (some (some (Value.int (zn res.1)), m10)) (some (some (Value.int zq), m10)))) = some (some (Value.int (if k = 0 then zn (b / 30) else if k = 1 then zn (b % 30) else zn res.1)), m10)
        rw [br_leT (by omega) hb]
        by_cases q0 : k = 0
        · rw [br_eqT q0, if_pos q0]
        · rw [br_eqF q0 (by omega) (by omega), if_neg q0]
          by_cases q1 : k = 1
          · rw [br_eqT q1, if_pos q1]
          · rw [br_eqF q1 (by omega) (by omega), if_neg q1]
