/-! the day of the reference: small ones -/
def lwR (E : Ev) (m : am_M) : Prop := ∃ tl : Nat → Bool, (∀ l, l < 3 → m.1 122 l = zb (tl l))
  ∧ (∀ l, l < 3 → tl l = false → ∀ nm, E l nm = none)
  ∧ (∀ l, l < 3 → tl l = true → ∀ d m', (∀ c, 122 ≤ c → c ≤ 127 → m'.1 c = m.1 c) → nmB (m'.2 130) → ∃ m'' v, am_c (d + 3) y_M_lawOf [.ref 107, .int (zn l)] m' = some (some (.long v), m'') ∧ ((E l (m'.2 130) = none ∧ m''.1 107 48 = zn 1) ∨ (E l (m'.2 130) = some v ∧ m''.1 107 48 = zn 0))
    ∧ (∀ c, c ≠ 107 → m''.1 c = m'.1 c) ∧ (∀ i, i ≠ 48 → m''.1 107 i = m'.1 107 i) ∧ ∀ c, c ≠ 131 → m''.2 c = m'.2 c)
def rx (T V : Td) (E : Ev) (m : am_M) : Prop :=
  (m.1 107 12 = zn (T 0 0))
  ∧ (m.1 107 13 = zn (T 0 1))
  ∧ (∀ i, i < T 0 0 → m.1 113 i = zn (T 1 i))
  ∧ (∀ i, i < T 0 0 → m.1 114 i = zn (T 2 i))
  ∧ (m.1 111 1 = zn (T 0 3))
  ∧ (m.1 107 59 = zn (V 3 0))
  ∧ (∀ i, i < T 0 0 → m.1 140 i = zn (V 0 i))
  ∧ (∀ i, i < T 0 0 → (zn i = m.1 107 63 ∧ V 1 i = 1) ∨ (zn i ≠ m.1 107 63 ∧ ((m.1 107 62 = zn 0 ∧ m.1 117 i = zn (V 1 i)) ∨ (m.1 107 62 = zn 1 ∧ ((m.1 117 i = zn 2 ∧ V 1 i = 0) ∨ (m.1 117 i = zn (V 1 i) ∧ V 1 i < 2))))))
  ∧ (∀ l, l < T 0 1 → (m.1 107 61 = zn 0 ∧ m.1 119 l = zn (V 2 l)) ∨ (m.1 107 61 = zn 1 ∧ V 2 l = 29))
  ∧ (lwR E m)
theorem rx.n {T V : Td} {E : Ev} {m : am_M} (hZ : rx T V E m) : m.1 107 12 = zn (T 0 0) := hZ.1
theorem rx.L {T V : Td} {E : Ev} {m : am_M} (hZ : rx T V E m) : m.1 107 13 = zn (T 0 1) := hZ.2.1
theorem rx.pl {T V : Td} {E : Ev} {m : am_M} (hZ : rx T V E m) : ∀ i, i < T 0 0 → m.1 113 i = zn (T 1 i) := hZ.2.2.1
theorem rx.sz {T V : Td} {E : Ev} {m : am_M} (hZ : rx T V E m) : ∀ i, i < T 0 0 → m.1 114 i = zn (T 2 i) := hZ.2.2.2.1
theorem rx.fg {T V : Td} {E : Ev} {m : am_M} (hZ : rx T V E m) : m.1 111 1 = zn (T 0 3) := hZ.2.2.2.2.1
theorem rx.rl {T V : Td} {E : Ev} {m : am_M} (hZ : rx T V E m) : m.1 107 59 = zn (V 3 0) := hZ.2.2.2.2.2.1
theorem rx.cm {T V : Td} {E : Ev} {m : am_M} (hZ : rx T V E m) : ∀ i, i < T 0 0 → m.1 140 i = zn (V 0 i) := hZ.2.2.2.2.2.2.1
theorem rx.hw {T V : Td} {E : Ev} {m : am_M} (hZ : rx T V E m) : ∀ i, i < T 0 0 → (zn i = m.1 107 63 ∧ V 1 i = 1) ∨ (zn i ≠ m.1 107 63 ∧ ((m.1 107 62 = zn 0 ∧ m.1 117 i = zn (V 1 i)) ∨ (m.1 107 62 = zn 1 ∧ ((m.1 117 i = zn 2 ∧ V 1 i = 0) ∨ (m.1 117 i = zn (V 1 i) ∧ V 1 i < 2))))) := hZ.2.2.2.2.2.2.2.1
theorem rx.rc {T V : Td} {E : Ev} {m : am_M} (hZ : rx T V E m) : ∀ l, l < T 0 1 → (m.1 107 61 = zn 0 ∧ m.1 119 l = zn (V 2 l)) ∨ (m.1 107 61 = zn 1 ∧ V 2 l = 29) := hZ.2.2.2.2.2.2.2.2.1
theorem rx.lw {T V : Td} {E : Ev} {m : am_M} (hZ : rx T V E m) : lwR E m := hZ.2.2.2.2.2.2.2.2.2
def rn (b : Nat) (T : Td) (ord : List Nat) (U : Nat → Nat) (mt : List (Nat × Nat)) (h : Hs) (w : List Nat) (day : Nat) (m : am_M) : Prop :=
  (∀ i, i < T 0 0 → m.1 132 (5 * b + i) = zo (h i))
  ∧ (m.1 134 b = zn w.length)
  ∧ (∀ i, i < w.length → m.1 133 (5 * b + i) = zn (w.getD i 0))
  ∧ (m.1 135 b = zn day)
  ∧ (∃ (ol : List Nat) (lo : Option Nat), ol.length = T 0 1 ∧ (∀ i, i < T 0 1 → m.1 137 (5 * b + i) = zn (ol.getD i 0)) ∧ m.1 107 64 = zo lo ∧ (∀ a, lo = some a → a < 5) ∧ (∀ l, l ∈ ol → l < 5) ∧ ord = ol.filter (fun l => decide (some l ≠ lo)))
  ∧ (∀ l, l < T 0 1 → (zn l = m.1 107 65 ∧ m.1 107 66 = zn (U l)) ∨ (zn l ≠ m.1 107 65 ∧ m.1 136 l = zn (U l)))
  ∧ ((m.1 107 60 = zn 0 ∧ m.1 107 55 = zn mt.length ∧ ∀ i, i < mt.length → m.1 138 i = zn (mt.getD i (0, 0)).1 ∧ m.1 139 i = zn (mt.getD i (0, 0)).2) ∨ (m.1 107 60 = zn 1 ∧ mt = []))
  ∧ (∀ i, T 0 0 ≤ i → i < 5 → m.1 132 (5 * b + i) = zm)
theorem rn.hs {b : Nat} {T : Td} {ord : List Nat} {U : Nat → Nat} {mt : List (Nat × Nat)} {h : Hs} {w : List Nat} {day : Nat} {m : am_M} (hZ : rn b T ord U mt h w day m) : ∀ i, i < T 0 0 → m.1 132 (5 * b + i) = zo (h i) := hZ.1
theorem rn.wl {b : Nat} {T : Td} {ord : List Nat} {U : Nat → Nat} {mt : List (Nat × Nat)} {h : Hs} {w : List Nat} {day : Nat} {m : am_M} (hZ : rn b T ord U mt h w day m) : m.1 134 b = zn w.length := hZ.2.1
theorem rn.ws {b : Nat} {T : Td} {ord : List Nat} {U : Nat → Nat} {mt : List (Nat × Nat)} {h : Hs} {w : List Nat} {day : Nat} {m : am_M} (hZ : rn b T ord U mt h w day m) : ∀ i, i < w.length → m.1 133 (5 * b + i) = zn (w.getD i 0) := hZ.2.2.1
theorem rn.dy {b : Nat} {T : Td} {ord : List Nat} {U : Nat → Nat} {mt : List (Nat × Nat)} {h : Hs} {w : List Nat} {day : Nat} {m : am_M} (hZ : rn b T ord U mt h w day m) : m.1 135 b = zn day := hZ.2.2.2.1
theorem rn.os {b : Nat} {T : Td} {ord : List Nat} {U : Nat → Nat} {mt : List (Nat × Nat)} {h : Hs} {w : List Nat} {day : Nat} {m : am_M} (hZ : rn b T ord U mt h w day m) : ∃ (ol : List Nat) (lo : Option Nat), ol.length = T 0 1 ∧ (∀ i, i < T 0 1 → m.1 137 (5 * b + i) = zn (ol.getD i 0)) ∧ m.1 107 64 = zo lo ∧ (∀ a, lo = some a → a < 5) ∧ (∀ l, l ∈ ol → l < 5) ∧ ord = ol.filter (fun l => decide (some l ≠ lo)) := hZ.2.2.2.2.1
theorem rn.hu {b : Nat} {T : Td} {ord : List Nat} {U : Nat → Nat} {mt : List (Nat × Nat)} {h : Hs} {w : List Nat} {day : Nat} {m : am_M} (hZ : rn b T ord U mt h w day m) : ∀ l, l < T 0 1 → (zn l = m.1 107 65 ∧ m.1 107 66 = zn (U l)) ∨ (zn l ≠ m.1 107 65 ∧ m.1 136 l = zn (U l)) := hZ.2.2.2.2.2.1
theorem rn.ms {b : Nat} {T : Td} {ord : List Nat} {U : Nat → Nat} {mt : List (Nat × Nat)} {h : Hs} {w : List Nat} {day : Nat} {m : am_M} (hZ : rn b T ord U mt h w day m) : (m.1 107 60 = zn 0 ∧ m.1 107 55 = zn mt.length ∧ ∀ i, i < mt.length → m.1 138 i = zn (mt.getD i (0, 0)).1 ∧ m.1 139 i = zn (mt.getD i (0, 0)).2) ∨ (m.1 107 60 = zn 1 ∧ mt = []) := hZ.2.2.2.2.2.2.1
theorem rn.h5 {b : Nat} {T : Td} {ord : List Nat} {U : Nat → Nat} {mt : List (Nat × Nat)} {h : Hs} {w : List Nat} {day : Nat} {m : am_M} (hZ : rn b T ord U mt h w day m) : ∀ i, T 0 0 ≤ i → i < 5 → m.1 132 (5 * b + i) = zm := hZ.2.2.2.2.2.2.2
theorem lwR_mono {E : Ev} {m m' : am_M} (h : lwR E m) (e : ∀ c, 122 ≤ c → c ≤ 127 → m'.1 c = m.1 c) : lwR E m' := by
  obtain ⟨tl, h1, h2, h3⟩ := h
  exact ⟨tl, fun l hl => by rw [e 122 (by omega) (by omega)]; exact h1 l hl, h2, fun l hl ht d m2 e2 => h3 l hl ht d m2 (fun c a b => (e2 c a b).trans (e c a b))⟩
theorem rx.mono {T V : Td} {E : Ev} {m m' : am_M} (h : rx T V E m) (e : ∀ c, 111 ≤ c → c ≤ 127 → m'.1 c = m.1 c) (e1 : m'.1 140 = m.1 140) (e2 : ∀ i, i ≠ 48 → m'.1 107 i = m.1 107 i) : rx T V E m' := by
  refine ⟨?_, ?_, ?_, ?_, ?_, ?_, ?_, ?_, ?_, lwR_mono h.lw (fun c a b => e c (by omega) (by omega))⟩
  · rw [e2 12 (by omega)]; exact h.n
  · rw [e2 13 (by omega)]; exact h.L
  · rw [e 113 (by omega) (by omega)]; exact h.pl
  · rw [e 114 (by omega) (by omega)]; exact h.sz
  · rw [e 111 (by omega) (by omega)]; exact h.fg
  · rw [e2 59 (by omega)]; exact h.rl
  · rw [e1]; exact h.cm
  · rw [e2 63 (by omega), e2 62 (by omega), e 117 (by omega) (by omega)]; exact h.hw
  · rw [e2 61 (by omega), e 119 (by omega) (by omega)]; exact h.rc
theorem rx.same {T V : Td} {E : Ev} {m m' : am_M} (h : rx T V E m) (e : m'.1 = m.1) : rx T V E m' := h.mono (fun c _ _ => by rw [e]) (by rw [e]) (fun i _ => by rw [e])
theorem rn.same {b : Nat} {T : Td} {ord : List Nat} {U : Nat → Nat} {mt : List (Nat × Nat)} {h : Hs} {w : List Nat} {day : Nat} {m m' : am_M} (s : rn b T ord U mt h w day m) (e : m'.1 = m.1) : rn b T ord U mt h w day m' := by
  unfold rn; rw [e]; exact s
/-- the worth's own cells are changed, nothing else -/
def frl (m m' : am_M) : Prop := (∀ c, c ≠ 107 → m'.1 c = m.1 c) ∧ (∀ i, i ≠ 48 → m'.1 107 i = m.1 107 i) ∧ ∀ c, c ≠ 130 → c ≠ 131 → m'.2 c = m.2 c
theorem frl_refl (m : am_M) : frl m m := ⟨fun _ _ => rfl, fun _ _ => rfl, fun _ _ _ => rfl⟩
theorem frl_tr {m m1 m2 : am_M} (h : frl m m1) (g : frl m1 m2) : frl m m2 := ⟨fun c e => (g.1 c e).trans (h.1 c e), fun i e => (g.2.1 i e).trans (h.2.1 i e), fun c e f => (g.2.2 c e f).trans (h.2.2 c e f)⟩
theorem rx.fl {T V : Td} {E : Ev} {m m' : am_M} (h : rx T V E m) (f : frl m m') : rx T V E m' := h.mono (fun c _ _ => f.1 c (by omega)) (f.1 140 (by omega)) f.2.1
theorem rn.fl {b : Nat} {T : Td} {ord : List Nat} {U : Nat → Nat} {mt : List (Nat × Nat)} {h : Hs} {w : List Nat} {day : Nat} {m m' : am_M} (s : rn b T ord U mt h w day m) (f : frl m m') : rn b T ord U mt h w day m' := by
  unfold rn
  rw [f.1 132 (by omega), f.1 133 (by omega), f.1 134 (by omega), f.1 135 (by omega), f.1 136 (by omega), f.1 137 (by omega), f.1 138 (by omega), f.1 139 (by omega), f.2.1 64 (by omega), f.2.1 65 (by omega), f.2.1 66 (by omega), f.2.1 60 (by omega), f.2.1 55 (by omega)]
  exact s
def rd (b n : Nat) (h : Hs) (w : List Nat) (m : am_M) : Prop := (∀ i, i < n → m.1 132 (5 * b + i) = zo (h i)) ∧ m.1 134 b = zn w.length ∧ (∀ i, i < w.length → m.1 133 (5 * b + i) = zn (w.getD i 0)) ∧ ∀ i, n ≤ i → i < 5 → m.1 132 (5 * b + i) = zm
def frd (b : Nat) (m m' : am_M) : Prop := m'.2 = m.2 ∧ (∀ c, c ≠ 132 → c ≠ 133 → c ≠ 134 → m'.1 c = m.1 c) ∧ (∀ i, i < 5 * b ∨ 5 * b + 5 ≤ i → m'.1 132 i = m.1 132 i ∧ m'.1 133 i = m.1 133 i) ∧ ∀ i, i ≠ b → m'.1 134 i = m.1 134 i
theorem frd_refl (b : Nat) (m : am_M) : frd b m m := ⟨rfl, fun _ _ _ _ => rfl, fun _ _ => ⟨rfl, rfl⟩, fun _ _ => rfl⟩
theorem frd_tr {b : Nat} {m m1 m2 : am_M} (h : frd b m m1) (g : frd b m1 m2) : frd b m m2 :=
  ⟨g.1.trans h.1, fun c a e f => (g.2.1 c a e f).trans (h.2.1 c a e f), fun i e => ⟨(g.2.2.1 i e).1.trans (h.2.2.1 i e).1, (g.2.2.1 i e).2.trans (h.2.2.1 i e).2⟩, fun i e => (g.2.2.2 i e).trans (h.2.2.2 i e)⟩
theorem rx.fd {b : Nat} {T V : Td} {E : Ev} {m m' : am_M} (h : rx T V E m) (f : frd b m m') : rx T V E m' := h.mono (fun c _ _ => f.2.1 c (by omega) (by omega) (by omega)) (f.2.1 140 (by omega) (by omega) (by omega)) (fun i _ => by rw [f.2.1 107 (by omega) (by omega) (by omega)])
theorem rn.dd {b : Nat} {T : Td} {ord : List Nat} {U : Nat → Nat} {mt : List (Nat × Nat)} {h : Hs} {w : List Nat} {day : Nat} {m : am_M} (s : rn b T ord U mt h w day m) : rd b (T 0 0) h w m := ⟨s.hs, s.wl, s.ws, s.h5⟩
theorem rn.to {b : Nat} {T : Td} {ord : List Nat} {U : Nat → Nat} {mt : List (Nat × Nat)} {h h' : Hs} {w w' : List Nat} {day : Nat} {m m' : am_M} (s : rn b T ord U mt h w day m) (g : rd b (T 0 0) h' w' m') (f : frd b m m') : rn b T ord U mt h' w' day m' := by
  have e : ∀ c, c ≠ 132 → c ≠ 133 → c ≠ 134 → m'.1 c = m.1 c := f.2.1
  refine ⟨g.1, g.2.1, g.2.2.1, ?_, ?_, ?_, ?_, g.2.2.2⟩
  · rw [e 135 (by omega) (by omega) (by omega)]; exact s.dy
  · rw [e 137 (by omega) (by omega) (by omega), e 107 (by omega) (by omega) (by omega)]; exact s.os
  · rw [e 136 (by omega) (by omega) (by omega), e 107 (by omega) (by omega) (by omega)]; exact s.hu
  · rw [e 138 (by omega) (by omega) (by omega), e 139 (by omega) (by omega) (by omega), e 107 (by omega) (by omega) (by omega)]; exact s.ms
theorem s_apart {d a b : Nat} {m : am_M} (ha : a < 1000) (hb : b < 1000) : am_c (d + 1) y_M_apart [.int (zn a), .int (zn b)] m = some (some (.int (zn (sp_ap a b))), m) := by
  rw [n_M_apart]; unfold sp_ap
  by_cases h : a < b
  · simp (disch := omega) only [w_ne, w_at, wl_ne, wl_at, wc_ne, wc_at, upd_at, upd_ne, upl_at, upl_ne, cpy_in0, zn_cl, zn_add, zn_mul, zn_sub, zn_pm, br_tt, br_ff, br_ltT, br_ltF, br_leT, br_leF, br_eqT, br_eqF, br_eqs, br_eqm, br_eqm', br_ltm, br_mlt, br_lem, br_mle, br_oiF, br_lgge, br_lgle, br_lggt, br_lglt, br_lgeq, br_zb, br_zb1, bV_s, bI_s, bL_s, zo_n, zo_s, if_pos h]
  · simp (disch := omega) only [w_ne, w_at, wl_ne, wl_at, wc_ne, wc_at, upd_at, upd_ne, upl_at, upl_ne, cpy_in0, zn_cl, zn_add, zn_mul, zn_sub, zn_pm, br_tt, br_ff, br_ltT, br_ltF, br_leT, br_leF, br_eqT, br_eqF, br_eqs, br_eqm, br_eqm', br_ltm, br_mlt, br_lem, br_mle, br_oiF, br_lgge, br_lgle, br_lggt, br_lglt, br_lgeq, br_zb, br_zb1, bV_s, bI_s, bL_s, zo_n, zo_s, if_neg h]
theorem s_howOf {T V : Td} {E : Ev} {m : am_M} (W : tw T V) (c : rx T V E m) {d t : Nat} (ht : t < T 0 0) : am_c (d + 1) y_M_howOf [.ref 107, .int (zn t)] m = some (some (.int (zn (V 1 t))), m) := by
  have := W.n; have := W.hw t ht
  rw [n_M_howOf]
  rcases c.hw t ht with ⟨e1, e2⟩ | ⟨e1, ⟨e2, e3⟩ | ⟨e2, ⟨e3, e4⟩ | ⟨e3, e4⟩⟩⟩
  · rw [← e1, br_eqs, e2]
  · rw [br_eq, if_neg e1]; simp (disch := omega) only [w_ne, w_at, wl_ne, wl_at, wc_ne, wc_at, upd_at, upd_ne, upl_at, upl_ne, cpy_in0, zn_cl, zn_add, zn_mul, zn_sub, zn_pm, br_tt, br_ff, br_ltT, br_ltF, br_leT, br_leF, br_eqT, br_eqF, br_eqs, br_eqm, br_eqm', br_ltm, br_mlt, br_lem, br_mle, br_oiF, br_lgge, br_lgle, br_lggt, br_lglt, br_lgeq, br_zb, br_zb1, bV_s, bI_s, bL_s, zo_n, zo_s, e2, e3]
  · rw [br_eq, if_neg e1]; simp (disch := omega) only [w_ne, w_at, wl_ne, wl_at, wc_ne, wc_at, upd_at, upd_ne, upl_at, upl_ne, cpy_in0, zn_cl, zn_add, zn_mul, zn_sub, zn_pm, br_tt, br_ff, br_ltT, br_ltF, br_leT, br_leF, br_eqT, br_eqF, br_eqs, br_eqm, br_eqm', br_ltm, br_mlt, br_lem, br_mle, br_oiF, br_lgge, br_lgle, br_lggt, br_lglt, br_lgeq, br_zb, br_zb1, bV_s, bI_s, bL_s, zo_n, zo_s, e2, e3, e4]
  · rw [br_eq, if_neg e1]; simp (disch := omega) only [w_ne, w_at, wl_ne, wl_at, wc_ne, wc_at, upd_at, upd_ne, upl_at, upl_ne, cpy_in0, zn_cl, zn_add, zn_mul, zn_sub, zn_pm, br_tt, br_ff, br_ltT, br_ltF, br_leT, br_leF, br_eqT, br_eqF, br_eqs, br_eqm, br_eqm', br_ltm, br_mlt, br_lem, br_mle, br_oiF, br_lgge, br_lgle, br_lggt, br_lglt, br_lgeq, br_zb, br_zb1, bV_s, bI_s, bL_s, zo_n, zo_s, e2, e3]
theorem s_placeOf {b : Nat} {T : Td} {ord : List Nat} {U : Nat → Nat} {mt : List (Nat × Nat)} {h : Hs} {w : List Nat} {day : Nat} {m : am_M} (s : rn b T ord U mt h w day m) {d l : Nat} (hL : T 0 1 ≤ 5) (hl : l < T 0 1) : am_c (d + 1) y_M_placeOf [.ref 107, .int (zn l)] m = some (some (.int (zn (U l))), m) := by
  rw [n_M_placeOf]
  rcases s.hu l hl with ⟨e1, e2⟩ | ⟨e1, e2⟩
  · rw [← e1, br_eqs, e2]
  · rw [br_eq, if_neg e1]; simp (disch := omega) only [w_ne, w_at, wl_ne, wl_at, wc_ne, wc_at, upd_at, upd_ne, upl_at, upl_ne, cpy_in0, zn_cl, zn_add, zn_mul, zn_sub, zn_pm, br_tt, br_ff, br_ltT, br_ltF, br_leT, br_leF, br_eqT, br_eqF, br_eqs, br_eqm, br_eqm', br_ltm, br_mlt, br_lem, br_mle, br_oiF, br_lgge, br_lgle, br_lggt, br_lglt, br_lgeq, br_zb, br_zb1, bV_s, bI_s, bL_s, zo_n, zo_s, e2]
theorem s_sizeHad {b : Nat} {T V : Td} {E : Ev} {m : am_M} (W : tw T V) (c : rx T V E m) {h : Hs} (hb1 : b < 2) (hh : ∀ i, i < T 0 0 → m.1 132 (5 * b + i) = zo (h i)) (hb : ∀ i s, i < T 0 0 → h i = some s → s < T 0 0) {d t : Nat} (ht : t < T 0 0) : am_c (d + 1) y_M_sizeHad [.ref 107, .int (zn b), .int (zn t)] m = some (some (.int (zn (sp_szo T (h t)))), m) := by
  have := W.n
  rw [n_M_sizeHad]
  cases e : h t with
  | none =>
    simp (disch := omega) only [w_ne, w_at, wl_ne, wl_at, wc_ne, wc_at, upd_at, upd_ne, upl_at, upl_ne, cpy_in0, zn_cl, zn_add, zn_mul, zn_sub, zn_pm, br_tt, br_ff, br_ltT, br_ltF, br_leT, br_leF, br_eqT, br_eqF, br_eqs, br_eqm, br_eqm', br_ltm, br_mlt, br_lem, br_mle, br_oiF, br_lgge, br_lgle, br_lggt, br_lglt, br_lgeq, br_zb, br_zb1, bV_s, bI_s, bL_s, zo_n, zo_s, hh, e]
    rfl
  | some q =>
    have := hb t q ht e
    simp (disch := omega) only [w_ne, w_at, wl_ne, wl_at, wc_ne, wc_at, upd_at, upd_ne, upl_at, upl_ne, cpy_in0, zn_cl, zn_add, zn_mul, zn_sub, zn_pm, br_tt, br_ff, br_ltT, br_ltF, br_leT, br_leF, br_eqT, br_eqF, br_eqs, br_eqm, br_eqm', br_ltm, br_mlt, br_lem, br_mle, br_oiF, br_lgge, br_lgle, br_lggt, br_lglt, br_lgeq, br_zb, br_zb1, bV_s, bI_s, bL_s, zo_n, zo_s, hh, e, c.sz]
    rfl
theorem s_layNames {b : Nat} {T V : Td} {E : Ev} {m : am_M} (W : tw T V) (c : rx T V E m) {h : Hs} {day : Nat} (hb1 : b < 2) (hh : ∀ i, i < T 0 0 → m.1 132 (5 * b + i) = zo (h i)) (hb : ∀ i s, i < T 0 0 → h i = some s → s < T 0 0) (hd : m.1 135 b = zn day) {d t z far l : Nat} (ht : t < T 0 0) :
    ∃ m', am_c (d + 2) y_M_layNames [.ref 107, .int (zn b), .int (zn t), .int (zn z), .int (zn far), .int (zn l)] m = some (none, m') ∧ m'.1 = m.1 ∧ (∀ c, c ≠ 130 → m'.2 c = m.2 c) ∧ ∀ i, i < 7 → m'.2 130 i = sp_nm z (V 0 t) far (sp_ow h t) (V 1 t) day l i := by
  have := W.n; have := W.cm t ht; have := W.hw t ht
  refine ⟨(m.1, am_wl (am_wl (am_wl (am_wl (am_wl (am_wl (am_wl m.2 130 0 (zn z).toInt64) 130 1 ((zn (V 0 t)).toInt64)) 130 2 (zn far).toInt64) 130 3 (zn (sp_ow h t)).toInt64) 130 4 ((zn (V 1 t)).toInt64)) 130 5 ((zn day).toInt64)) 130 6 (zn l).toInt64), ?_, rfl, ?_, ?_⟩
  · have e0 : ∀ x, am_c (d + 1) y_M_howOf [.ref 107, .int (zn t)] (m.1, x) = some (some (.int (zn (V 1 t))), (m.1, x)) := fun x => s_howOf (m := (m.1, x)) W (c.same rfl) ht
    rw [n_M_layNames]
    unfold sp_ow
    cases e : h t with
    | none =>
      simp (disch := omega) only [w_ne, w_at, wl_ne, wl_at, wc_ne, wc_at, upd_at, upd_ne, upl_at, upl_ne, cpy_in0, zn_cl, zn_add, zn_mul, zn_sub, zn_pm, br_tt, br_ff, br_ltT, br_ltF, br_leT, br_leF, br_eqT, br_eqF, br_eqs, br_eqm, br_eqm', br_ltm, br_mlt, br_lem, br_mle, br_oiF, br_lgge, br_lgle, br_lggt, br_lglt, br_lgeq, br_zb, br_zb1, bV_s, bI_s, bL_s, zo_n, zo_s, hh, hd, c.cm, e, e0]
      simp only [reduceCtorEq, if_false, zn0l]
    | some q =>
      have := hb t q ht e
      by_cases e1 : q = t
      · simp (disch := omega) only [w_ne, w_at, wl_ne, wl_at, wc_ne, wc_at, upd_at, upd_ne, upl_at, upl_ne, cpy_in0, zn_cl, zn_add, zn_mul, zn_sub, zn_pm, br_tt, br_ff, br_ltT, br_ltF, br_leT, br_leF, br_eqT, br_eqF, br_eqs, br_eqm, br_eqm', br_ltm, br_mlt, br_lem, br_mle, br_oiF, br_lgge, br_lgle, br_lggt, br_lglt, br_lgeq, br_zb, br_zb1, bV_s, bI_s, bL_s, zo_n, zo_s, hh, hd, c.cm, e, e1, e0]
        simp only [if_true, zn1l]
      · simp (disch := omega) only [w_ne, w_at, wl_ne, wl_at, wc_ne, wc_at, upd_at, upd_ne, upl_at, upl_ne, cpy_in0, zn_cl, zn_add, zn_mul, zn_sub, zn_pm, br_tt, br_ff, br_ltT, br_ltF, br_leT, br_leF, br_eqT, br_eqF, br_eqs, br_eqm, br_eqm', br_ltm, br_mlt, br_lem, br_mle, br_oiF, br_lgge, br_lgle, br_lggt, br_lglt, br_lgeq, br_zb, br_zb1, bV_s, bI_s, bL_s, zo_n, zo_s, hh, hd, c.cm, e, e0]
        simp only [Option.some.injEq, e1, if_false, zn0l]
  · intro c hc; simp (disch := omega) only [w_ne, w_at, wl_ne, wl_at, wc_ne, wc_at, upd_at, upd_ne, upl_at, upl_ne, cpy_in0, zn_cl, zn_add, zn_mul, zn_sub, zn_pm, br_tt, br_ff, br_ltT, br_ltF, br_leT, br_leF, br_eqT, br_eqF, br_eqs, br_eqm, br_eqm', br_ltm, br_mlt, br_lem, br_mle, br_oiF, br_lgge, br_lgle, br_lggt, br_lglt, br_lgeq, br_zb, br_zb1, bV_s, bI_s, bL_s, zo_n, zo_s]
  · intro i hi
    rcases (by omega : i = 0 ∨ i = 1 ∨ i = 2 ∨ i = 3 ∨ i = 4 ∨ i = 5 ∨ i = 6) with e | e | e | e | e | e | e <;> subst e <;> simp (disch := omega) only [w_ne, w_at, wl_ne, wl_at, wc_ne, wc_at, upd_at, upd_ne, upl_at, upl_ne, cpy_in0, zn_cl, zn_add, zn_mul, zn_sub, zn_pm, br_tt, br_ff, br_ltT, br_ltF, br_leT, br_leF, br_eqT, br_eqF, br_eqs, br_eqm, br_eqm', br_ltm, br_mlt, br_lem, br_mle, br_oiF, br_lgge, br_lgle, br_lggt, br_lglt, br_lgeq, br_zb, br_zb1, bV_s, bI_s, bL_s, zo_n, zo_s] <;> rfl
theorem s_lateOf {b : Nat} {T V : Td} {E : Ev} {m : am_M} (W : tw T V) (hE : evW E) (c : rx T V E m) {h : Hs} {day : Nat} (hb1 : b < 2) (hh : ∀ i, i < T 0 0 → m.1 132 (5 * b + i) = zo (h i)) (hb : ∀ i s, i < T 0 0 → h i = some s → s < T 0 0) (hd : m.1 135 b = zn day) {d t : Nat} (ht : t < T 0 0) :
    ∃ m', am_c (d + 4) y_M_lateOf [.ref 107, .int (zn b), .int (zn t)] m = some (some (.long (sp_late T V E day h t)), m') ∧ frl m m' := by
  have := W.n
  have e0 := s_sizeHad W c hb1 hh hb (d := d + 2) ht
  obtain ⟨m1, a1, a2, a3, a4⟩ := s_layNames W c hb1 hh hb hd (d := d + 1) (z := sp_szo T (h t)) (far := 0) (l := 0) ht
  obtain ⟨tl, h1, h2, h3⟩ := c.lw
  have e1 := h1 0 (by omega)
  have c1 := c.same a2
  rw [n_M_lateOf, e0]
  unfold sp_late sp_wor
  cases e2 : tl 0 with
  | false =>
    refine ⟨m1, ?_, fun c _ => by rw [a2], fun i _ => by rw [a2], fun c c1 _ => a3 c c1⟩
    rw [h2 0 (by omega) e2]
    rw [e2, zb_f, ← a2] at e1
    simp (disch := omega) only [w_ne, w_at, wl_ne, wl_at, wc_ne, wc_at, upd_at, upd_ne, upl_at, upl_ne, cpy_in0, zn_cl, zn_add, zn_mul, zn_sub, zn_pm, br_tt, br_ff, br_ltT, br_ltF, br_leT, br_leF, br_eqT, br_eqF, br_eqs, br_eqm, br_eqm', br_ltm, br_mlt, br_lem, br_mle, br_oiF, br_lgge, br_lgle, br_lggt, br_lglt, br_lgeq, br_zb, br_zb1, bV_s, bI_s, bL_s, zo_n, zo_s, a1, e1, c1.cm, Option.getD_none]
  | true =>
    obtain ⟨m2, v, b1, b2, b3, b4, b5⟩ := h3 0 (by omega) e2 d m1 (fun c _ _ => by rw [a2]) (nmB_of a4)
    have f2 : frl m m2 := ⟨fun c e => by rw [b3 c e, a2], fun i e => by rw [b4 i e, a2], fun c e f => by rw [b5 c f, a3 c e]⟩
    have c2 := c.fl f2
    refine ⟨m2, ?_, f2⟩
    rw [e2, zb_t, ← a2] at e1
    rw [← hE.1 0 _ _ a4]
    rcases b2 with ⟨p1, p2⟩ | ⟨p1, p2⟩
    · simp (disch := omega) only [w_ne, w_at, wl_ne, wl_at, wc_ne, wc_at, upd_at, upd_ne, upl_at, upl_ne, cpy_in0, zn_cl, zn_add, zn_mul, zn_sub, zn_pm, br_tt, br_ff, br_ltT, br_ltF, br_leT, br_leF, br_eqT, br_eqF, br_eqs, br_eqm, br_eqm', br_ltm, br_mlt, br_lem, br_mle, br_oiF, br_lgge, br_lgle, br_lggt, br_lglt, br_lgeq, br_zb, br_zb1, bV_s, bI_s, bL_s, zo_n, zo_s, a1, e1, b1, p1, p2, c2.cm, Option.getD_none]
    · simp (disch := omega) only [w_ne, w_at, wl_ne, wl_at, wc_ne, wc_at, upd_at, upd_ne, upl_at, upl_ne, cpy_in0, zn_cl, zn_add, zn_mul, zn_sub, zn_pm, br_tt, br_ff, br_ltT, br_ltF, br_leT, br_leF, br_eqT, br_eqF, br_eqs, br_eqm, br_eqm', br_ltm, br_mlt, br_lem, br_mle, br_oiF, br_lgge, br_lgle, br_lggt, br_lglt, br_lgeq, br_zb, br_zb1, bV_s, bI_s, bL_s, zo_n, zo_s, a1, e1, b1, p1, p2, Option.getD_some]
theorem s_nearOf {b : Nat} {T V : Td} {E : Ev} {m : am_M} (W : tw T V) (hE : evW E) (c : rx T V E m) {ord : List Nat} {U : Nat → Nat} {mt : List (Nat × Nat)} {h : Hs} {w : List Nat} {day : Nat} (s : rn b T ord U mt h w day m) (hU : ∀ l, l < T 0 1 → U l < 30) (hb1 : b < 2) (hb : ∀ i s, i < T 0 0 → h i = some s → s < T 0 0) {d t l : Nat} (ht : t < T 0 0) (hl : l < T 0 1) :
    ∃ m', am_c (d + 4) y_M_nearOf [.ref 107, .int (zn b), .int (zn t), .int (zn l)] m = some (some (.long (sp_nv T V E U day h l t)), m') ∧ frl m m' := by
  have := W.n; have := W.L; have q1 := W.pl t ht; have q2 := hU l hl
  have e0 := s_placeOf s (d := d + 2) W.L hl
  have e3 : am_c (d + 3) y_M_apart [.int (zn (T 1 t)), .int (zn (U l))] m = _ := s_apart (d := d + 2) (by omega) (by omega)
  obtain ⟨m1, a1, a2, a3, a4⟩ := s_layNames W c hb1 s.hs hb s.dy (d := d + 1) (z := T 2 t) (far := sp_ap (T 1 t) (U l)) (l := l) ht
  obtain ⟨tl, h1, h2, h3⟩ := c.lw
  have e1 := h1 1 (by omega)
  rw [n_M_nearOf]
  unfold sp_nv sp_nwor
  cases e2 : tl 1 with
  | false =>
    refine ⟨m1, ?_, fun c _ => by rw [a2], fun i _ => by rw [a2], fun c c1 _ => a3 c c1⟩
    rw [h2 1 (by omega) e2]
    rw [e2, zb_f, ← a2] at e1
    simp (disch := omega) only [w_ne, w_at, wl_ne, wl_at, wc_ne, wc_at, upd_at, upd_ne, upl_at, upl_ne, cpy_in0, zn_cl, zn_add, zn_mul, zn_sub, zn_pm, br_tt, br_ff, br_ltT, br_ltF, br_leT, br_leF, br_eqT, br_eqF, br_eqs, br_eqm, br_eqm', br_ltm, br_mlt, br_lem, br_mle, br_oiF, br_lgge, br_lgle, br_lggt, br_lglt, br_lgeq, br_zb, br_zb1, bV_s, bI_s, bL_s, zo_n, zo_s, e0, c.pl, c.sz, e3, a1, e1, Option.getD_none]
  | true =>
    obtain ⟨m2, v, b1, b2, b3, b4, b5⟩ := h3 1 (by omega) e2 d m1 (fun c _ _ => by rw [a2]) (nmB_of a4)
    refine ⟨m2, ?_, ⟨fun c e => by rw [b3 c e, a2], fun i e => by rw [b4 i e, a2], fun c e f => by rw [b5 c f, a3 c e]⟩⟩
    rw [e2, zb_t, ← a2] at e1
    rw [← hE.1 1 _ _ a4]
    rcases b2 with ⟨p1, p2⟩ | ⟨p1, p2⟩
    · simp (disch := omega) only [w_ne, w_at, wl_ne, wl_at, wc_ne, wc_at, upd_at, upd_ne, upl_at, upl_ne, cpy_in0, zn_cl, zn_add, zn_mul, zn_sub, zn_pm, br_tt, br_ff, br_ltT, br_ltF, br_leT, br_leF, br_eqT, br_eqF, br_eqs, br_eqm, br_eqm', br_ltm, br_mlt, br_lem, br_mle, br_oiF, br_lgge, br_lgle, br_lggt, br_lglt, br_lgeq, br_zb, br_zb1, bV_s, bI_s, bL_s, zo_n, zo_s, e0, c.pl, c.sz, e3, a1, e1, b1, p1, p2, Option.getD_none]
    · simp (disch := omega) only [w_ne, w_at, wl_ne, wl_at, wc_ne, wc_at, upd_at, upd_ne, upl_at, upl_ne, cpy_in0, zn_cl, zn_add, zn_mul, zn_sub, zn_pm, br_tt, br_ff, br_ltT, br_ltF, br_leT, br_leF, br_eqT, br_eqF, br_eqs, br_eqm, br_eqm', br_ltm, br_mlt, br_lem, br_mle, br_oiF, br_lgge, br_lgle, br_lggt, br_lglt, br_lgeq, br_zb, br_zb1, bV_s, bI_s, bL_s, zo_n, zo_s, e0, c.pl, c.sz, e3, a1, e1, b1, p1, p2, Option.getD_some]
