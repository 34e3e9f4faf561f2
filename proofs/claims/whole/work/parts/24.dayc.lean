/-! the day of the class: worths -/
/-- within the bounds of values -/
def bd (x : Int64) : Prop := -1000000000000 ≤ x.toInt ∧ x.toInt ≤ 1000000000000
def nmB (nm : Nat → Int64) : Prop := ∀ i, i < 7 → bd (nm i)
theorem bd32 (x : Int32) : bd x.toInt64 := by
  have h : x.toInt64.toInt = x.toInt := Int32.toInt_toInt64 x
  have h1 := Int32.toInt_lt x; have h2 := Int32.le_toInt x
  unfold bd; rw [h]; omega
theorem nm_bd {a b c d e f g i : Nat} : bd (sp_nm a b c d e f g i) := by
  unfold sp_nm; split <;> exact bd32 _
theorem nmB_of {nm : Nat → Int64} {a b c d e f g : Nat} (h : ∀ i, i < 7 → nm i = sp_nm a b c d e f g i) : nmB nm := fun i hi => by rw [h i hi]; exact nm_bd
def lwC (E : Ev) (m : am_M) : Prop := ∃ tl : Nat → Bool, (∀ l, l < 3 → ∀ d m', (∀ c, 39 ≤ c → c ≤ 43 → m'.1 c = m.1 c) → am_c (d + 1) y_Laws_isTold [.ref 39, .int (zn l)] m' = some (some (.int (zb (tl l))), m'))
  ∧ (∀ l, l < 3 → tl l = false → ∀ nm, E l nm = none)
  ∧ (∀ l, l < 3 → tl l = true → ∀ d m', (∀ c, 39 ≤ c → c ≤ 43 → m'.1 c = m.1 c) → nmB (m'.2 44) → ∃ m'', am_c (d + 2) y_Laws_work [.ref 39, .int (zn l)] m' = some (some (.long ((E l (m'.2 44)).getD lmin)), m'') ∧ m''.1 = m'.1 ∧ ∀ c, c ≠ 45 → m''.2 c = m'.2 c)
/-- a law looks at its seven names alone; its values are no lmin -/
def evW (E : Ev) : Prop := (∀ l nm nm', (∀ i, i < 7 → nm i = nm' i) → E l nm = E l nm') ∧ ∀ l nm v, nmB nm → E l nm = some v → v ≠ lmin
def cx (T V : Td) (E : Ev) (m : am_M) : Prop :=
  (m.1 27 0 = zn (T 0 0))
  ∧ (m.1 27 8 = zn (T 0 1))
  ∧ (∀ i, i < T 0 0 → m.1 29 i = zn (T 1 i))
  ∧ (∀ i, i < T 0 0 → m.1 30 i = zn (T 2 i))
  ∧ (m.1 27 15 = zn (T 0 3))
  ∧ (m.1 46 3 = zn (V 3 0))
  ∧ (∀ i, i < T 0 0 → m.1 47 i = zn (V 0 i))
  ∧ (∀ i, i < T 0 0 → m.1 48 i = zn (V 1 i))
  ∧ (∀ l, l < T 0 1 → m.1 49 l = zn (V 2 l))
  ∧ (lwC E m)
theorem cx.n {T V : Td} {E : Ev} {m : am_M} (hZ : cx T V E m) : m.1 27 0 = zn (T 0 0) := hZ.1
theorem cx.L {T V : Td} {E : Ev} {m : am_M} (hZ : cx T V E m) : m.1 27 8 = zn (T 0 1) := hZ.2.1
theorem cx.pl {T V : Td} {E : Ev} {m : am_M} (hZ : cx T V E m) : ∀ i, i < T 0 0 → m.1 29 i = zn (T 1 i) := hZ.2.2.1
theorem cx.sz {T V : Td} {E : Ev} {m : am_M} (hZ : cx T V E m) : ∀ i, i < T 0 0 → m.1 30 i = zn (T 2 i) := hZ.2.2.2.1
theorem cx.fg {T V : Td} {E : Ev} {m : am_M} (hZ : cx T V E m) : m.1 27 15 = zn (T 0 3) := hZ.2.2.2.2.1
theorem cx.rl {T V : Td} {E : Ev} {m : am_M} (hZ : cx T V E m) : m.1 46 3 = zn (V 3 0) := hZ.2.2.2.2.2.1
theorem cx.cm {T V : Td} {E : Ev} {m : am_M} (hZ : cx T V E m) : ∀ i, i < T 0 0 → m.1 47 i = zn (V 0 i) := hZ.2.2.2.2.2.2.1
theorem cx.hw {T V : Td} {E : Ev} {m : am_M} (hZ : cx T V E m) : ∀ i, i < T 0 0 → m.1 48 i = zn (V 1 i) := hZ.2.2.2.2.2.2.2.1
theorem cx.rc {T V : Td} {E : Ev} {m : am_M} (hZ : cx T V E m) : ∀ l, l < T 0 1 → m.1 49 l = zn (V 2 l) := hZ.2.2.2.2.2.2.2.2.1
theorem cx.lw {T V : Td} {E : Ev} {m : am_M} (hZ : cx T V E m) : lwC E m := hZ.2.2.2.2.2.2.2.2.2
def tw (T V : Td) : Prop :=
  (T 0 0 ≤ 5)
  ∧ (T 0 1 ≤ 5)
  ∧ (∀ i, i < T 0 0 → T 1 i < 30)
  ∧ (∀ i, i < T 0 0 → T 2 i < 10)
  ∧ (T 0 3 ≤ 100)
  ∧ (V 3 0 < 3)
  ∧ (∀ i, i < T 0 0 → V 0 i < 10)
  ∧ (∀ i, i < T 0 0 → V 1 i < 3)
  ∧ (∀ l, l < T 0 1 → V 2 l < 30)
theorem tw.n {T V : Td} (hZ : tw T V) : T 0 0 ≤ 5 := hZ.1
theorem tw.L {T V : Td} (hZ : tw T V) : T 0 1 ≤ 5 := hZ.2.1
theorem tw.pl {T V : Td} (hZ : tw T V) : ∀ i, i < T 0 0 → T 1 i < 30 := hZ.2.2.1
theorem tw.sz {T V : Td} (hZ : tw T V) : ∀ i, i < T 0 0 → T 2 i < 10 := hZ.2.2.2.1
theorem tw.fg {T V : Td} (hZ : tw T V) : T 0 3 ≤ 100 := hZ.2.2.2.2.1
theorem tw.rl {T V : Td} (hZ : tw T V) : V 3 0 < 3 := hZ.2.2.2.2.2.1
theorem tw.cm {T V : Td} (hZ : tw T V) : ∀ i, i < T 0 0 → V 0 i < 10 := hZ.2.2.2.2.2.2.1
theorem tw.hw {T V : Td} (hZ : tw T V) : ∀ i, i < T 0 0 → V 1 i < 3 := hZ.2.2.2.2.2.2.2.1
theorem tw.rc {T V : Td} (hZ : tw T V) : ∀ l, l < T 0 1 → V 2 l < 30 := hZ.2.2.2.2.2.2.2.2
def sn (k : Nat) (T : Td) (ord : List Nat) (U : Nat → Nat) (mt : List (Nat × Nat)) (h : Hs) (w : List Nat) (day : Nat) (m : am_M) : Prop :=
  (m.1 k 0 = zn (T 0 0))
  ∧ (∀ i, i < T 0 0 → m.1 (k + 1) i = zo (h i))
  ∧ (m.1 k 3 = zn w.length)
  ∧ (∀ i, i < w.length → m.1 (k + 2) i = zn (w.getD i 0))
  ∧ (m.1 k 10 = zn day)
  ∧ (m.1 k 6 = zn ord.length)
  ∧ (∀ i, i < ord.length → m.1 (k + 4) i = zn (ord.getD i 0))
  ∧ (∀ l, l < T 0 1 → m.1 (k + 3) l = zn (U l))
  ∧ (m.1 k 9 = zn mt.length)
  ∧ (∀ i, i < mt.length → (m.1 (k + 5) i = zn (mt.getD i (0, 0)).1 ∧ m.1 (k + 6) i = zn (mt.getD i (0, 0)).2) ∨ (m.1 (k + 5) i = zn (mt.getD i (0, 0)).2 ∧ m.1 (k + 6) i = zn (mt.getD i (0, 0)).1))
theorem sn.n {k : Nat} {T : Td} {ord : List Nat} {U : Nat → Nat} {mt : List (Nat × Nat)} {h : Hs} {w : List Nat} {day : Nat} {m : am_M} (hZ : sn k T ord U mt h w day m) : m.1 k 0 = zn (T 0 0) := hZ.1
theorem sn.hs {k : Nat} {T : Td} {ord : List Nat} {U : Nat → Nat} {mt : List (Nat × Nat)} {h : Hs} {w : List Nat} {day : Nat} {m : am_M} (hZ : sn k T ord U mt h w day m) : ∀ i, i < T 0 0 → m.1 (k + 1) i = zo (h i) := hZ.2.1
theorem sn.wl {k : Nat} {T : Td} {ord : List Nat} {U : Nat → Nat} {mt : List (Nat × Nat)} {h : Hs} {w : List Nat} {day : Nat} {m : am_M} (hZ : sn k T ord U mt h w day m) : m.1 k 3 = zn w.length := hZ.2.2.1
theorem sn.ws {k : Nat} {T : Td} {ord : List Nat} {U : Nat → Nat} {mt : List (Nat × Nat)} {h : Hs} {w : List Nat} {day : Nat} {m : am_M} (hZ : sn k T ord U mt h w day m) : ∀ i, i < w.length → m.1 (k + 2) i = zn (w.getD i 0) := hZ.2.2.2.1
theorem sn.dy {k : Nat} {T : Td} {ord : List Nat} {U : Nat → Nat} {mt : List (Nat × Nat)} {h : Hs} {w : List Nat} {day : Nat} {m : am_M} (hZ : sn k T ord U mt h w day m) : m.1 k 10 = zn day := hZ.2.2.2.2.1
theorem sn.ol {k : Nat} {T : Td} {ord : List Nat} {U : Nat → Nat} {mt : List (Nat × Nat)} {h : Hs} {w : List Nat} {day : Nat} {m : am_M} (hZ : sn k T ord U mt h w day m) : m.1 k 6 = zn ord.length := hZ.2.2.2.2.2.1
theorem sn.os {k : Nat} {T : Td} {ord : List Nat} {U : Nat → Nat} {mt : List (Nat × Nat)} {h : Hs} {w : List Nat} {day : Nat} {m : am_M} (hZ : sn k T ord U mt h w day m) : ∀ i, i < ord.length → m.1 (k + 4) i = zn (ord.getD i 0) := hZ.2.2.2.2.2.2.1
theorem sn.hu {k : Nat} {T : Td} {ord : List Nat} {U : Nat → Nat} {mt : List (Nat × Nat)} {h : Hs} {w : List Nat} {day : Nat} {m : am_M} (hZ : sn k T ord U mt h w day m) : ∀ l, l < T 0 1 → m.1 (k + 3) l = zn (U l) := hZ.2.2.2.2.2.2.2.1
theorem sn.ml {k : Nat} {T : Td} {ord : List Nat} {U : Nat → Nat} {mt : List (Nat × Nat)} {h : Hs} {w : List Nat} {day : Nat} {m : am_M} (hZ : sn k T ord U mt h w day m) : m.1 k 9 = zn mt.length := hZ.2.2.2.2.2.2.2.2.1
theorem sn.ms {k : Nat} {T : Td} {ord : List Nat} {U : Nat → Nat} {mt : List (Nat × Nat)} {h : Hs} {w : List Nat} {day : Nat} {m : am_M} (hZ : sn k T ord U mt h w day m) : ∀ i, i < mt.length → (m.1 (k + 5) i = zn (mt.getD i (0, 0)).1 ∧ m.1 (k + 6) i = zn (mt.getD i (0, 0)).2) ∨ (m.1 (k + 5) i = zn (mt.getD i (0, 0)).2 ∧ m.1 (k + 6) i = zn (mt.getD i (0, 0)).1) := hZ.2.2.2.2.2.2.2.2.2
def sw (T : Td) (ord : List Nat) (U : Nat → Nat) (mt : List (Nat × Nat)) (day : Nat) : Prop :=
  (ord.length ≤ 5)
  ∧ (∀ l, l ∈ ord → l < T 0 1)
  ∧ (∀ l, l < T 0 1 → U l < 30)
  ∧ (mt.length ≤ 10)
  ∧ (∀ p, p ∈ mt → p.1 < T 0 0 ∧ p.2 < T 0 0 ∧ p.1 ≠ p.2)
  ∧ (day < 5000)
theorem sw.ol {T : Td} {ord : List Nat} {U : Nat → Nat} {mt : List (Nat × Nat)} {day : Nat} (hZ : sw T ord U mt day) : ord.length ≤ 5 := hZ.1
theorem sw.os {T : Td} {ord : List Nat} {U : Nat → Nat} {mt : List (Nat × Nat)} {day : Nat} (hZ : sw T ord U mt day) : ∀ l, l ∈ ord → l < T 0 1 := hZ.2.1
theorem sw.hu {T : Td} {ord : List Nat} {U : Nat → Nat} {mt : List (Nat × Nat)} {day : Nat} (hZ : sw T ord U mt day) : ∀ l, l < T 0 1 → U l < 30 := hZ.2.2.1
theorem sw.ml {T : Td} {ord : List Nat} {U : Nat → Nat} {mt : List (Nat × Nat)} {day : Nat} (hZ : sw T ord U mt day) : mt.length ≤ 10 := hZ.2.2.2.1
theorem sw.ms {T : Td} {ord : List Nat} {U : Nat → Nat} {mt : List (Nat × Nat)} {day : Nat} (hZ : sw T ord U mt day) : ∀ p, p ∈ mt → p.1 < T 0 0 ∧ p.2 < T 0 0 ∧ p.1 ≠ p.2 := hZ.2.2.2.2.1
theorem sw.dy {T : Td} {ord : List Nat} {U : Nat → Nat} {mt : List (Nat × Nat)} {day : Nat} (hZ : sw T ord U mt day) : day < 5000 := hZ.2.2.2.2.2
theorem lwC_mono {E : Ev} {m m' : am_M} (h : lwC E m) (e : ∀ c, 39 ≤ c → c ≤ 43 → m'.1 c = m.1 c) : lwC E m' := by
  obtain ⟨tl, h1, h2, h3⟩ := h
  exact ⟨tl, fun l hl d m2 e2 => h1 l hl d m2 (fun c a b => (e2 c a b).trans (e c a b)), h2, fun l hl ht d m2 e2 => h3 l hl ht d m2 (fun c a b => (e2 c a b).trans (e c a b))⟩
theorem cx.mono {T V : Td} {E : Ev} {m m' : am_M} (h : cx T V E m) (e : ∀ c, 27 ≤ c → c ≤ 49 → m'.1 c = m.1 c) : cx T V E m' := by
  refine ⟨?_, ?_, ?_, ?_, ?_, ?_, ?_, ?_, ?_, lwC_mono h.lw (fun c a b => e c (by omega) (by omega))⟩
  · rw [e 27 (by omega) (by omega)]; exact h.n
  · rw [e 27 (by omega) (by omega)]; exact h.L
  · rw [e 29 (by omega) (by omega)]; exact h.pl
  · rw [e 30 (by omega) (by omega)]; exact h.sz
  · rw [e 27 (by omega) (by omega)]; exact h.fg
  · rw [e 46 (by omega) (by omega)]; exact h.rl
  · rw [e 47 (by omega) (by omega)]; exact h.cm
  · rw [e 48 (by omega) (by omega)]; exact h.hw
  · rw [e 49 (by omega) (by omega)]; exact h.rc
theorem cx.fs {k : Nat} (hk : sc_k k) {T V : Td} {E : Ev} {m m' : am_M} (h : cx T V E m) (f : fsd k m m') : cx T V E m' := by
  have := sc_lo hk
  exact h.mono (fun c a b => f.2.1 c (by omega) (by omega) (by omega))
theorem cx.same {T V : Td} {E : Ev} {m m' : am_M} (h : cx T V E m) (e : m'.1 = m.1) : cx T V E m' := h.mono (fun c _ _ => by rw [e])
theorem sn.dd {k : Nat} {T : Td} {ord : List Nat} {U : Nat → Nat} {mt : List (Nat × Nat)} {h : Hs} {w : List Nat} {day : Nat} {m : am_M} (s : sn k T ord U mt h w day m) : sd k (T 0 0) h w m := ⟨s.hs, s.wl, s.ws⟩
theorem sn.to {k : Nat} {T : Td} {ord : List Nat} {U : Nat → Nat} {mt : List (Nat × Nat)} {h h' : Hs} {w w' : List Nat} {day : Nat} {m m' : am_M} (s : sn k T ord U mt h w day m) (g : sd k (T 0 0) h' w' m') (f : fsd k m m') : sn k T ord U mt h' w' day m' := by
  refine ⟨?_, g.1, g.2.1, g.2.2, ?_, ?_, ?_, ?_, ?_, ?_⟩
  · rw [f.2.2 0 (by omega)]; exact s.n
  · rw [f.2.2 10 (by omega)]; exact s.dy
  · rw [f.2.2 6 (by omega)]; exact s.ol
  · rw [f.2.1 (k + 4) (by omega) (by omega) (by omega)]; exact s.os
  · rw [f.2.1 (k + 3) (by omega) (by omega) (by omega)]; exact s.hu
  · rw [f.2.2 9 (by omega)]; exact s.ml
  · rw [f.2.1 (k + 5) (by omega) (by omega) (by omega), f.2.1 (k + 6) (by omega) (by omega) (by omega)]; exact s.ms
theorem sn.same {k : Nat} {T : Td} {ord : List Nat} {U : Nat → Nat} {mt : List (Nat × Nat)} {h : Hs} {w : List Nat} {day : Nat} {m m' : am_M} (s : sn k T ord U mt h w day m) (e : m'.1 = m.1) : sn k T ord U mt h w day m' := by
  unfold sn; rw [e]; exact s
theorem zn0l : (zn 0).toInt64 = 0 := rfl
theorem zn1l : (zn 1).toInt64 = 1 := rfl
theorem s_sizeOf {T V : Td} {E : Ev} {m : am_M} (W : tw T V) (c : cx T V E m) {d : Nat} {o : Option Nat} (ho : ∀ s, o = some s → s < T 0 0) : am_c (d + 1) y_Told_sizeOf [.ref 27, .int (zo o)] m = some (some (.int (zn (sp_szo T o))), m) := by
  have := W.n
  rw [n_Told_sizeOf]
  cases o with
  | none =>
    rw [zo_n, br_lt, zm_i, zn_i (by omega), if_pos (by omega)]; rfl
  | some s =>
    have := ho s rfl
    simp (disch := omega) only [w_ne, w_at, wl_ne, wl_at, wc_ne, wc_at, upd_at, upd_ne, upl_at, upl_ne, cpy_in0, zn_cl, zn_add, zn_mul, zn_sub, zn_pm, br_tt, br_ff, br_ltT, br_ltF, br_leT, br_leF, br_eqT, br_eqF, br_eqs, br_eqm, br_eqm', br_ltm, br_mlt, br_lem, br_mle, br_oiF, br_lgge, br_lgle, br_lggt, br_lglt, br_lgeq, br_zb, br_zb1, bV_s, bI_s, bL_s, zo_n, zo_s, c.n, c.sz]
    rfl
theorem s_farness {k : Nat} (hk : sc_k k) {T V : Td} {E : Ev} {m : am_M} (W : tw T V) (c : cx T V E m) {U : Nat → Nat} (hu : ∀ l, l < T 0 1 → m.1 (k + 3) l = zn (U l)) (hU : ∀ l, l < T 0 1 → U l < 30) {d t l : Nat} (ht : t < T 0 0) (hl : l < T 0 1) : am_c (d + 1) y_Day_farness [.ref 26, .ref k, .int (zn t), .int (zn l)] m = some (some (.int (zn (sp_ap (T 1 t) (U l)))), m) := by
  have := W.n; have := W.L; have := W.pl t ht; have := hU l hl
  rw [n_Day_farness hk]
  simp (disch := omega) only [w_ne, w_at, wl_ne, wl_at, wc_ne, wc_at, upd_at, upd_ne, upl_at, upl_ne, cpy_in0, zn_cl, zn_add, zn_mul, zn_sub, zn_pm, br_tt, br_ff, br_ltT, br_ltF, br_leT, br_leF, br_eqT, br_eqF, br_eqs, br_eqm, br_eqm', br_ltm, br_mlt, br_lem, br_mle, br_oiF, br_lgge, br_lgle, br_lggt, br_lglt, br_lgeq, br_zb, br_zb1, bV_s, bI_s, bL_s, zo_n, zo_s, c.pl, hu, zn_iabs]
theorem s_nameAll {k : Nat} (hk : sc_k k) {T V : Td} {E : Ev} {m : am_M} (W : tw T V) (c : cx T V E m) {h : Hs} {day : Nat} (hh : ∀ i, i < T 0 0 → m.1 (k + 1) i = zo (h i)) (hb : ∀ i s, i < T 0 0 → h i = some s → s < T 0 0) (hd : m.1 k 10 = zn day) {d t z : Nat} (ht : t < T 0 0) :
    ∃ m', am_c (d + 1) y_Day_nameAll [.ref 26, .ref k, .int (zn t), .int (zn z)] m = some (none, m') ∧ m'.1 = m.1 ∧ (∀ c, c ≠ 44 → m'.2 c = m.2 c) ∧ ∀ i, i < 7 → m'.2 44 i = sp_nm z (V 0 t) 0 (sp_ow h t) (V 1 t) day 0 i := by
  have := W.n; have := W.cm t ht; have := W.hw t ht
  refine ⟨(m.1, am_wl (am_wl (am_wl (am_wl (am_wl (am_wl (am_wl m.2 44 0 (zn z).toInt64) 44 1 ((zn (V 0 t)).toInt64)) 44 2 0) 44 3 (zn (sp_ow h t)).toInt64) 44 4 ((zn (V 1 t)).toInt64)) 44 5 ((zn day).toInt64)) 44 6 0), ?_, rfl, ?_, ?_⟩
  · rw [n_Day_nameAll hk]
    unfold sp_ow
    cases e : h t with
    | none =>
      simp (disch := omega) only [w_ne, w_at, wl_ne, wl_at, wc_ne, wc_at, upd_at, upd_ne, upl_at, upl_ne, cpy_in0, zn_cl, zn_add, zn_mul, zn_sub, zn_pm, br_tt, br_ff, br_ltT, br_ltF, br_leT, br_leF, br_eqT, br_eqF, br_eqs, br_eqm, br_eqm', br_ltm, br_mlt, br_lem, br_mle, br_oiF, br_lgge, br_lgle, br_lggt, br_lglt, br_lgeq, br_zb, br_zb1, bV_s, bI_s, bL_s, zo_n, zo_s, hh, hd, c.cm, c.hw, e]
      simp only [reduceCtorEq, if_false, zn0l]
    | some s =>
      have := hb t s ht e
      by_cases e1 : s = t
      · simp (disch := omega) only [w_ne, w_at, wl_ne, wl_at, wc_ne, wc_at, upd_at, upd_ne, upl_at, upl_ne, cpy_in0, zn_cl, zn_add, zn_mul, zn_sub, zn_pm, br_tt, br_ff, br_ltT, br_ltF, br_leT, br_leF, br_eqT, br_eqF, br_eqs, br_eqm, br_eqm', br_ltm, br_mlt, br_lem, br_mle, br_oiF, br_lgge, br_lgle, br_lggt, br_lglt, br_lgeq, br_zb, br_zb1, bV_s, bI_s, bL_s, zo_n, zo_s, hh, hd, c.cm, c.hw, e, e1]
        simp only [if_true, zn1l]
      · simp (disch := omega) only [w_ne, w_at, wl_ne, wl_at, wc_ne, wc_at, upd_at, upd_ne, upl_at, upl_ne, cpy_in0, zn_cl, zn_add, zn_mul, zn_sub, zn_pm, br_tt, br_ff, br_ltT, br_ltF, br_leT, br_leF, br_eqT, br_eqF, br_eqs, br_eqm, br_eqm', br_ltm, br_mlt, br_lem, br_mle, br_oiF, br_lgge, br_lgle, br_lggt, br_lglt, br_lgeq, br_zb, br_zb1, bV_s, bI_s, bL_s, zo_n, zo_s, hh, hd, c.cm, c.hw, e]
        simp only [Option.some.injEq, e1, if_false, zn0l]
  · intro c hc; simp (disch := omega) only [w_ne, w_at, wl_ne, wl_at, wc_ne, wc_at, upd_at, upd_ne, upl_at, upl_ne, cpy_in0, zn_cl, zn_add, zn_mul, zn_sub, zn_pm, br_tt, br_ff, br_ltT, br_ltF, br_leT, br_leF, br_eqT, br_eqF, br_eqs, br_eqm, br_eqm', br_ltm, br_mlt, br_lem, br_mle, br_oiF, br_lgge, br_lgle, br_lggt, br_lglt, br_lgeq, br_zb, br_zb1, bV_s, bI_s, bL_s, zo_n, zo_s]
  · intro i hi
    rcases (by omega : i = 0 ∨ i = 1 ∨ i = 2 ∨ i = 3 ∨ i = 4 ∨ i = 5 ∨ i = 6) with e | e | e | e | e | e | e <;> subst e <;> simp (disch := omega) only [w_ne, w_at, wl_ne, wl_at, wc_ne, wc_at, upd_at, upd_ne, upl_at, upl_ne, cpy_in0, zn_cl, zn_add, zn_mul, zn_sub, zn_pm, br_tt, br_ff, br_ltT, br_ltF, br_leT, br_leF, br_eqT, br_eqF, br_eqs, br_eqm, br_eqm', br_ltm, br_mlt, br_lem, br_mle, br_oiF, br_lgge, br_lgle, br_lggt, br_lglt, br_lgeq, br_zb, br_zb1, bV_s, bI_s, bL_s, zo_n, zo_s] <;> rfl
/-- the long cells of names and stack are changed, nothing else -/
def fdl (m m' : am_M) : Prop := m'.1 = m.1 ∧ ∀ c, c ≠ 44 → c ≠ 45 → m'.2 c = m.2 c
theorem s_worth {k : Nat} (hk : sc_k k) {T V : Td} {E : Ev} {m : am_M} (W : tw T V) (hE : evW E) (c : cx T V E m) {h : Hs} {day : Nat} (hh : ∀ i, i < T 0 0 → m.1 (k + 1) i = zo (h i)) (hb : ∀ i s, i < T 0 0 → h i = some s → s < T 0 0) (hd : m.1 k 10 = zn day) {d t l : Nat} (ht : t < T 0 0) (hl : l < 3) :
    ∃ m', am_c (d + 3) y_Day_worth [.ref 26, .ref k, .int (zn l), .int (zn t)] m = some (some (.long ((sp_wor T V E day h l t).getD lmin)), m') ∧ fdl m m' := by
  obtain ⟨tl, h1, h2, h3⟩ := c.lw
  have := W.n
  have e1 := h1 l hl (d + 1) m (fun _ _ _ => rfl)
  cases e2 : tl l with
  | false =>
    refine ⟨m, ?_, rfl, fun _ _ _ => rfl⟩
    rw [n_Day_worth hk, e1, e2]
    unfold sp_wor
    rw [h2 l hl e2]
    simp (disch := omega) only [w_ne, w_at, wl_ne, wl_at, wc_ne, wc_at, upd_at, upd_ne, upl_at, upl_ne, cpy_in0, zn_cl, zn_add, zn_mul, zn_sub, zn_pm, br_tt, br_ff, br_ltT, br_ltF, br_leT, br_leF, br_eqT, br_eqF, br_eqs, br_eqm, br_eqm', br_ltm, br_mlt, br_lem, br_mle, br_oiF, br_lgge, br_lgle, br_lggt, br_lglt, br_lgeq, br_zb, br_zb1, bV_s, bI_s, bL_s, zo_n, zo_s, if_false, Option.getD_none, reduceCtorEq, Bool.false_eq_true]
  | true =>
    obtain ⟨m1, a1, a2, a3, a4⟩ := s_nameAll hk W c hh hb hd (d := d + 1) (z := sp_szo T (h t)) ht
    obtain ⟨m2, b1, b2, b3⟩ := h3 l hl e2 d m1 (fun c _ _ => by rw [a2]) (nmB_of a4)
    refine ⟨m2, ?_, b2.trans a2, fun c c1 c2 => (b3 c c2).trans (a3 c c1)⟩
    have e3 := s_sizeOf W c (d := d + 1) (o := h t) (fun s e => hb t s ht e)
    rw [n_Day_worth hk, e1, e2]
    simp (disch := omega) only [w_ne, w_at, wl_ne, wl_at, wc_ne, wc_at, upd_at, upd_ne, upl_at, upl_ne, cpy_in0, zn_cl, zn_add, zn_mul, zn_sub, zn_pm, br_tt, br_ff, br_ltT, br_ltF, br_leT, br_leF, br_eqT, br_eqF, br_eqs, br_eqm, br_eqm', br_ltm, br_mlt, br_lem, br_mle, br_oiF, br_lgge, br_lgle, br_lggt, br_lglt, br_lgeq, br_zb, br_zb1, bV_s, bI_s, bL_s, zo_n, zo_s, if_true, hh, e3, a1, b1]
    unfold sp_wor
    rw [hE.1 l _ _ a4]
theorem s_nearWorth {k : Nat} (hk : sc_k k) {T V : Td} {E : Ev} {m : am_M} (W : tw T V) (hE : evW E) (c : cx T V E m) {h : Hs} {day : Nat} {U : Nat → Nat} (hu : ∀ l, l < T 0 1 → m.1 (k + 3) l = zn (U l)) (hU : ∀ l, l < T 0 1 → U l < 30) (hh : ∀ i, i < T 0 0 → m.1 (k + 1) i = zo (h i)) (hb : ∀ i s, i < T 0 0 → h i = some s → s < T 0 0) (hd : m.1 k 10 = zn day) {d t l : Nat} (ht : t < T 0 0) (hl : l < T 0 1) :
    ∃ m', am_c (d + 3) y_Day_nearWorth [.ref 26, .ref k, .int (zn t), .int (zn l)] m = some (some (.long ((sp_nwor T V E U day h l t).getD lmin)), m') ∧ fdl m m' := by
  obtain ⟨tl, h1, h2, h3⟩ := c.lw
  have := W.n; have := W.L
  have e1 := h1 1 (by omega) (d + 1) m (fun _ _ _ => rfl)
  cases e2 : tl 1 with
  | false =>
    refine ⟨m, ?_, rfl, fun _ _ _ => rfl⟩
    rw [n_Day_nearWorth hk, e1, e2]
    unfold sp_nwor
    rw [h2 1 (by omega) e2]
    simp (disch := omega) only [w_ne, w_at, wl_ne, wl_at, wc_ne, wc_at, upd_at, upd_ne, upl_at, upl_ne, cpy_in0, zn_cl, zn_add, zn_mul, zn_sub, zn_pm, br_tt, br_ff, br_ltT, br_ltF, br_leT, br_leF, br_eqT, br_eqF, br_eqs, br_eqm, br_eqm', br_ltm, br_mlt, br_lem, br_mle, br_oiF, br_lgge, br_lgle, br_lggt, br_lglt, br_lgeq, br_zb, br_zb1, bV_s, bI_s, bL_s, zo_n, zo_s, if_false, Option.getD_none, reduceCtorEq, Bool.false_eq_true]
  | true =>
    obtain ⟨m1, a1, a2, a3, a4⟩ := s_nameAll hk W c hh hb hd (d := d + 1) (z := T 2 t) ht
    have e3 := s_farness hk W (c.same a2) (d := d + 1) (U := U) (by rw [a2]; exact hu) hU ht hl
    have a5 : ∀ i, i < 7 → (m1.1, am_wl (am_wl m1.2 44 2 (zn (sp_ap (T 1 t) (U l))).toInt64) 44 6 (zn l).toInt64).2 44 i = sp_nm (T 2 t) (V 0 t) (sp_ap (T 1 t) (U l)) (sp_ow h t) (V 1 t) day l i := by
      intro i hi
      rcases (by omega : i = 0 ∨ i = 1 ∨ i = 2 ∨ i = 3 ∨ i = 4 ∨ i = 5 ∨ i = 6) with e | e | e | e | e | e | e <;> subst e <;> simp (disch := omega) only [w_ne, w_at, wl_ne, wl_at, wc_ne, wc_at, upd_at, upd_ne, upl_at, upl_ne, cpy_in0, zn_cl, zn_add, zn_mul, zn_sub, zn_pm, br_tt, br_ff, br_ltT, br_ltF, br_leT, br_leF, br_eqT, br_eqF, br_eqs, br_eqm, br_eqm', br_ltm, br_mlt, br_lem, br_mle, br_oiF, br_lgge, br_lgle, br_lggt, br_lglt, br_lgeq, br_zb, br_zb1, bV_s, bI_s, bL_s, zo_n, zo_s, a4] <;> rfl
    obtain ⟨m2, b1, b2, b3⟩ := h3 1 (by omega) e2 d (m1.1, am_wl (am_wl m1.2 44 2 (zn (sp_ap (T 1 t) (U l))).toInt64) 44 6 (zn l).toInt64) (fun c _ _ => by show m1.1 c = _; rw [a2]) (nmB_of a5)
    rw [hE.1 1 _ _ a5] at b1
    refine ⟨m2, ?_, b2.trans a2, fun c c1 c2 => (b3 c c2).trans ?_⟩
    · rw [n_Day_nearWorth hk, e1, e2]
      simp (disch := omega) only [w_ne, w_at, wl_ne, wl_at, wc_ne, wc_at, upd_at, upd_ne, upl_at, upl_ne, cpy_in0, zn_cl, zn_add, zn_mul, zn_sub, zn_pm, br_tt, br_ff, br_ltT, br_ltF, br_leT, br_leF, br_eqT, br_eqF, br_eqs, br_eqm, br_eqm', br_ltm, br_mlt, br_lem, br_mle, br_oiF, br_lgge, br_lgle, br_lggt, br_lglt, br_lgeq, br_zb, br_zb1, bV_s, bI_s, bL_s, zo_n, zo_s, if_true, c.sz, a1, e3, b1]
      rfl
    · simp (disch := omega) only [w_ne, w_at, wl_ne, wl_at, wc_ne, wc_at, upd_at, upd_ne, upl_at, upl_ne, cpy_in0, zn_cl, zn_add, zn_mul, zn_sub, zn_pm, br_tt, br_ff, br_ltT, br_ltF, br_leT, br_leF, br_eqT, br_eqF, br_eqs, br_eqm, br_eqm', br_ltm, br_mlt, br_lem, br_mle, br_oiF, br_lgge, br_lgle, br_lggt, br_lglt, br_lgeq, br_zb, br_zb1, bV_s, bI_s, bL_s, zo_n, zo_s]; exact a3 c c1
