/-! the class tries orders -/
theorem s_prepare {T G F : Td} {q : Sq} {w : List Nat} {day num d : Nat} {m : am_M} (c : Core T G F q w day num m) :
    ∃ m', am_c (d + 5) y_Finder_prepare [.ref 25, .ref 71] m = some (none, m') ∧ sn 52 T q.1 q.2.1 q.2.2.1 (sp_gat T (V0 T) (gE G F) day q.2.2.2 w).1 (sp_gat T (V0 T) (gE G F) day q.2.2.2 w).2 day m' ∧ (∀ l t, l < T 0 1 → t < T 0 0 → m'.2 51 (l * 5 + t) = sp_near T (V0 T) (gE G F) q.2.1 day l t) ∧ (∀ k, k < 5 → m'.1 66 k = zn k) ∧ fqC m m' := by
  have hk : sc_k 71 := Or.inr (Or.inr (Or.inl rfl))
  have hk2 : sc_k 52 := Or.inl rfl
  have hE := gE_evW c.gw c.gf
  have hw5 := hw_len c.qw.hw; have hn5 := c.tw.n; have hL := c.tw.L; have ol := c.qw.ol; have hdb := c.db
  have S := c.qw.sw c.tw (day := day) (by omega)
  obtain ⟨m1, a1, a2, a3, a4⟩ := s_copy hk2 hk (by omega) c.tw c.sc (by omega) (by omega) c.qw.ml (d := d + 3)
  have X0 := c.tc.cx c.gw
  have X1 : cx T (V0 T) (gE G F) m1 := X0.mono (fun p _ _ => a4.2 p (by omega))
  obtain ⟨m2, b1, b2, b3⟩ := s_gather hk2 c.tw.tw hE X1 a2 c.qw.hw (d := d)
  have X2 : cx T (V0 T) (gE G F) m2 := X1.mono (fun p _ _ => b3.2.1 p (by omega) (by omega) (by omega))
  have I2 := gat_hw (V := V0 T) (E := gE G F) (day := day) c.qw.hw
  obtain ⟨m3, d1, d2, d3, d4, d5⟩ := s_measure hk2 c.tw.tw hE (a := 0) X2 b2 I2 S.hu (Nat.zero_le _) (Nat.le_refl _) (d := d)
  have lp : ∀ (r i f : Nat) (m : am_M), i + r = 5 → r < f → (∀ k, k < i → m.1 66 k = zn k) → ∃ m', r_Finder_prepare_40 71 (d + 4) f (zn i) m = some (none, m') ∧ m'.2 = m.2 ∧ (∀ p, p ≠ 66 → m'.1 p = m.1 p) ∧ ∀ k, k < 5 → m'.1 66 k = zn k := by
    intro r
    induction r with
    | zero =>
      intro i f m h1 h2 h3
      obtain ⟨f, rfl⟩ : ∃ g, f = g + 1 := ⟨f - 1, by omega⟩
      refine ⟨m, ?_, rfl, fun _ _ => rfl, fun k hk => h3 k (by omega)⟩
      rw [e_Finder_prepare_40 hk, br_leT (by omega) (by omega)]
    | succ r ih =>
      intro i f m h1 h2 h3
      obtain ⟨f, rfl⟩ : ∃ g, f = g + 1 := ⟨f - 1, by omega⟩
      obtain ⟨m', e1, e2, e3, e4⟩ := ih (i + 1) f (am_w m.1 66 i (zn i), m.2) (by omega) (by omega) (by
        intro k hk
        by_cases e : k = i
        · subst e; simp (disch := omega) only [w_ne, w_at, wl_ne, wl_at, wc_ne, wc_at, upd_at, upd_ne, upl_at, upl_ne, cpy_in0, zn_cl, zn_add, zn_mul, zn_sub, zn_pm, br_tt, br_ff, br_ltT, br_ltF, br_leT, br_leF, br_eqT, br_eqF, br_eqs, br_eqm, br_eqm', br_ltm, br_mlt, br_lem, br_mle, br_oiF, br_lgge, br_lgle, br_lggt, br_lglt, br_lgeq, br_zb, br_zb1, bV_s, bI_s, bL_s, zo_n, zo_s]
        · simp (disch := omega) only [w_ne, w_at, wl_ne, wl_at, wc_ne, wc_at, upd_at, upd_ne, upl_at, upl_ne, cpy_in0, zn_cl, zn_add, zn_mul, zn_sub, zn_pm, br_tt, br_ff, br_ltT, br_ltF, br_leT, br_leF, br_eqT, br_eqF, br_eqs, br_eqm, br_eqm', br_ltm, br_mlt, br_lem, br_mle, br_oiF, br_lgge, br_lgle, br_lggt, br_lglt, br_lgeq, br_zb, br_zb1, bV_s, bI_s, bL_s, zo_n, zo_s]; exact h3 k (by omega))
      refine ⟨m', ?_, e2, fun p hp => by rw [e3 p hp]; simp (disch := omega) only [w_ne, w_at, wl_ne, wl_at, wc_ne, wc_at, upd_at, upd_ne, upl_at, upl_ne, cpy_in0, zn_cl, zn_add, zn_mul, zn_sub, zn_pm, br_tt, br_ff, br_ltT, br_ltF, br_leT, br_leF, br_eqT, br_eqF, br_eqs, br_eqm, br_eqm', br_ltm, br_mlt, br_lem, br_mle, br_oiF, br_lgge, br_lgle, br_lggt, br_lglt, br_lgeq, br_zb, br_zb1, bV_s, bI_s, bL_s, zo_n, zo_s], e4⟩
      rw [e_Finder_prepare_40 hk, br_leF (by omega) (by omega), br_oiF (by omega) (by omega), zn_cl (by omega), zn_add, e1]
  obtain ⟨m4, e1, e2, e3, e4⟩ := lp 5 0 29999 m3 (by omega) (by omega) (fun k hk => by omega)
  refine ⟨m4, ?_, (b2.same d2).mono (fun p _ _ => e3 p (by omega)), ?_, e4, ?_⟩
  · rw [n_Finder_prepare hk, a1, bV_s, b1, bV_s, X2.L, d1, bV_s, e1]
  · intro l t hl ht
    rw [e2, d4 l t (by omega) hl ht]
    exact nv_near (gath_all _ _ _ (by have := c.qw.hw.2; omega) t ht)
  · refine fqC_tr (a4.q (by omega)) (fqC_tr (b3.q (by omega)) ⟨fun p hp => by rw [e3 p (by omega), d2], fun p hp => by rw [e2, d3 p (by omega) (by omega) (by omega)]⟩)
/-- at most the trial and the rows of orders are changed -/
def fto (m m' : am_M) : Prop := m'.2 = m.2 ∧ ∀ c, c < 59 ∨ 67 < c → m'.1 c = m.1 c
theorem fto_refl (m : am_M) : fto m m := ⟨rfl, fun _ _ => rfl⟩
theorem fto_tr {m m1 m2 : am_M} (h : fto m m1) (g : fto m1 m2) : fto m m2 := ⟨g.1.trans h.1, fun c e => (g.2 c e).trans (h.2 c e)⟩
theorem fto.q {m m' : am_M} (f : fto m m') : fqC m m' := ⟨fun c hc => f.2 c (by omega), fun c _ => by rw [f.1]⟩
/-- what stands ready for an order -/
def ory (T G F : Td) (q : Sq) (w : List Nat) (day : Nat) (m : am_M) : Prop :=
  (cx T (V0 T) (gE G F) m)
  ∧ (sn 52 T q.1 q.2.1 q.2.2.1 (sp_gat T (V0 T) (gE G F) day q.2.2.2 w).1 (sp_gat T (V0 T) (gE G F) day q.2.2.2 w).2 day m)
  ∧ (∀ l t, l < T 0 1 → t < T 0 0 → m.2 51 (l * 5 + t) = sp_near T (V0 T) (gE G F) q.2.1 day l t)
theorem ory.c {T G F : Td} {q : Sq} {w : List Nat} {day : Nat} {m : am_M} (hZ : ory T G F q w day m) : cx T (V0 T) (gE G F) m := hZ.1
theorem ory.s {T G F : Td} {q : Sq} {w : List Nat} {day : Nat} {m : am_M} (hZ : ory T G F q w day m) : sn 52 T q.1 q.2.1 q.2.2.1 (sp_gat T (V0 T) (gE G F) day q.2.2.2 w).1 (sp_gat T (V0 T) (gE G F) day q.2.2.2 w).2 day m := hZ.2.1
theorem ory.g {T G F : Td} {q : Sq} {w : List Nat} {day : Nat} {m : am_M} (hZ : ory T G F q w day m) : ∀ l t, l < T 0 1 → t < T 0 0 → m.2 51 (l * 5 + t) = sp_near T (V0 T) (gE G F) q.2.1 day l t := hZ.2.2
theorem ory.to {T G F : Td} {q : Sq} {w : List Nat} {day : Nat} {m m' : am_M} (h : ory T G F q w day m) (f : fto m m') : ory T G F q w day m' :=
  ⟨h.c.mono (fun p _ _ => f.2 p (by omega)), h.s.mono (fun p _ _ => f.2 p (by omega)), by rw [f.1]; exact h.g⟩
def od (T G F : Td) (q : Sq) (w : List Nat) (day : Nat) (p : List Nat) : Hs × List Nat := sp_pass T (V0 T) (gE G F) q.2.1 day p q.2.2.1 q.2.2.2 w
theorem s_tryOrder {T G F : Td} {q : Sq} {w : List Nat} {day d : Nat} {p : List Nat} {m : am_M} (W : tW T) (Q : qW T w q) (hd : day ≤ 999) (o : ory T G F q w day m) (hl : p.length = T 0 1) (hp : ∀ l, l ∈ p → l < T 0 1) (h6 : ∀ k, k < T 0 1 → m.1 66 k = zn (p.getD k 0)) :
    ∃ m', am_c (d + 5) y_Finder_tryOrder [.ref 25] m = some (none, m') ∧ sn 59 T p q.2.1 q.2.2.1 (od T G F q w day p).1 (od T G F q w day p).2 (day + 1) m' ∧ m'.2 = m.2 ∧ ∀ c, c < 59 ∨ 65 < c → m'.1 c = m.1 c := by
  have hk : sc_k 52 := Or.inl rfl
  have hk9 : sc_k 59 := Or.inr (Or.inl rfl)
  have hL := W.L; have ol := Q.ol; have hn5 := W.n
  have I := gat_hw (V := V0 T) (E := gE G F) (day := day) Q.hw
  have hw5 := hw_len I
  obtain ⟨m1, a1, a2, a3, a4⟩ := s_copy hk9 hk (by omega) W o.s (by omega) (by omega) Q.ml (d := d + 3)
  let m2 : am_M := (am_wc m1.1 66 63 0 0 5, m1.2)
  have e2 : ∀ c, c ≠ 63 → m2.1 c = m1.1 c := fun c hc => by show (am_wc m1.1 66 63 0 0 5) c = _; simp (disch := omega) only [w_ne, w_at, wl_ne, wl_at, wc_ne, wc_at, upd_at, upd_ne, upl_at, upl_ne, cpy_in0, zn_cl, zn_add, zn_mul, zn_sub, zn_pm, br_tt, br_ff, br_ltT, br_ltF, br_leT, br_leF, br_eqT, br_eqF, br_eqs, br_eqm, br_eqm', br_ltm, br_mlt, br_lem, br_mle, br_oiF, br_lgge, br_lgle, br_lggt, br_lglt, br_lgeq, br_zb, br_zb1, bV_s, bI_s, bL_s, zo_n, zo_s]
  have e63 : ∀ k, k < 5 → m2.1 63 k = m1.1 66 k := fun k hk => by show (am_wc m1.1 66 63 0 0 5) 63 k = _; simp (disch := omega) only [w_ne, w_at, wl_ne, wl_at, wc_ne, wc_at, upd_at, upd_ne, upl_at, upl_ne, cpy_in0, zn_cl, zn_add, zn_mul, zn_sub, zn_pm, br_tt, br_ff, br_ltT, br_ltF, br_leT, br_leF, br_eqT, br_eqF, br_eqs, br_eqm, br_eqm', br_ltm, br_mlt, br_lem, br_mle, br_oiF, br_lgge, br_lgle, br_lggt, br_lglt, br_lgeq, br_zb, br_zb1, bV_s, bI_s, bL_s, zo_n, zo_s]
  have s2 : sn 59 T p q.2.1 q.2.2.1 (sp_gat T (V0 T) (gE G F) day q.2.2.2 w).1 (sp_gat T (V0 T) (gE G F) day q.2.2.2 w).2 day m2 := by
    refine ⟨?_, ?_, ?_, ?_, ?_, ?_, ?_, ?_, ?_, ?_⟩
    · rw [e2 59 (by omega)]; exact a2.n
    · rw [e2 60 (by omega)]; exact a2.hs
    · rw [e2 59 (by omega)]; exact a2.wl
    · rw [e2 61 (by omega)]; exact a2.ws
    · rw [e2 59 (by omega)]; exact a2.dy
    · rw [e2 59 (by omega), hl, ← ol]; exact a2.ol
    · intro i hi
      show m2.1 63 i = _
      rw [e63 i (by omega), a4.2 66 (by omega)]; exact h6 i (by omega)
    · rw [e2 62 (by omega)]; exact a2.hu
    · rw [e2 59 (by omega)]; exact a2.ml
    · rw [e2 64 (by omega), e2 65 (by omega)]; exact a2.ms
  have S : sw T p q.2.1 q.2.2.1 day := ⟨by omega, hp, Q.hu, Q.ml, fun x hx => by have := Q.ms x hx; omega, by omega⟩
  have X2 : cx T (V0 T) (gE G F) m2 := o.c.mono (fun c _ _ => by rw [e2 c (by omega), a4.2 c (by omega)])
  obtain ⟨m3, b1, b2, b3⟩ := s_finishx hk9 W.tw S X2 s2 I (d := d) (by intro l t h1 h2; show m1.2 51 _ = _; rw [a4.1]; exact o.g l t h1 h2)
  refine ⟨m3, ?_, b2, by rw [b3.1]; exact a4.1, fun c hc => by rw [b3.2.1 c (by omega) (by omega) (by omega), e2 c (by omega), a4.2 c (by omega)]⟩
  have b1' : am_c (d + 4) y_Day_finish [.ref 26, .ref 59] (am_wc m1.1 66 63 0 0 5, m1.2) = some (none, m3) := b1
  rw [n_Finder_tryOrder, a1, bV_s, b1', bV_s]
/-- the best of some orders -/
def bup (f : List Nat → Nat) (p : List Nat) : Option (Nat × List Nat) → Option (Nat × List Nat)
  | none => some (f p, p)
  | some (v, q) => if v < f p then some (f p, p) else some (v, q)
def bst (f : List Nat → Nat) : List (List Nat) → Option (Nat × List Nat) → Option (Nat × List Nat)
  | [], a => a
  | p :: t, a => bst f t (bup f p a)
theorem bst_n {f : List Nat → Nat} {a : Option (Nat × List Nat)} : bst f [] a = a := rfl
theorem bst_c {f : List Nat → Nat} {p : List Nat} {t : List (List Nat)} {a : Option (Nat × List Nat)} : bst f (p :: t) a = bst f t (bup f p a) := rfl
def zf : Option (Nat × List Nat) → Int32
  | none => zm
  | some (v, _) => zn v
theorem bst_some {f : List Nat → Nat} (t : List (List Nat)) : ∀ a, (∃ v p, a = some (v, p)) → ∃ v p, bst f t a = some (v, p) := by
  induction t with
  | nil => intro a h; exact h
  | cons p t ih =>
    intro a ⟨v, q, h⟩
    subst h
    rw [bst_c]
    apply ih
    by_cases g : v < f p
    · exact ⟨f p, p, if_pos g⟩
    · exact ⟨v, q, if_neg g⟩
theorem lp_best {T G F : Td} {q : Sq} {w : List Nat} {day d : Nat} (W : tW T) (Q : qW T w q) (hd : day ≤ 999) (t : List (List Nat)) :
    ∀ (p : List Nat) (i f : Nat) (a : Option (Nat × List Nat)) (x5 : Option Value) (m : am_M), chB (T 0 1) (p :: t) = true → (∀ x, x ∈ p :: t → x.length = T 0 1 ∧ ∀ l, l ∈ x → l < T 0 1) → i + t.length + 1 ≤ 120 → t.length + 1 < f → ory T G F q w day m → (∀ k, k < T 0 1 → m.1 66 k = zn (p.getD k 0)) → (∀ v x, a = some (v, x) → v ≤ 5 ∧ ∀ k, k < T 0 1 → m.1 67 k = zn (x.getD k 0)) →
    ∃ m', r_Finder_findBestOrder_12 71 (d + 5) f (zf a) (zn 1) (zn i) x5 m = some (some (.int (zf (bst (fun p => sp_own (T 0 0) (od T G F q w day p).1) (p :: t) a))), m') ∧ fto m m' ∧ ∀ v x, bst (fun p => sp_own (T 0 0) (od T G F q w day p).1) (p :: t) a = some (v, x) → v ≤ 5 ∧ ∀ k, k < T 0 1 → m'.1 67 k = zn (x.getD k 0) := by
  have hk : sc_k 71 := Or.inr (Or.inr (Or.inl rfl))
  have hk9 : sc_k 59 := Or.inr (Or.inl rfl)
  have hL := W.L; have hn5 := W.n
  induction t with
  | nil =>
    intro p i f a x5 m hc hx h1 h2 o h6 h7
    obtain ⟨f, rfl⟩ : ∃ g, f = g + 2 := ⟨f - 2, by simp at h2; omega⟩
    have hxp := hx p (by simp)
    obtain ⟨m1, a1, a2, a3, a4⟩ := s_tryOrder (d := d) W Q hd o hxp.1 hxp.2 h6
    have I' : hwI (T 0 0) (od T G F q w day p).1 (od T G F q w day p).2 := pass_hw (fun x hx => by have := Q.ms x hx; omega) Q.hw
    have b1 := s_countOwn hk9 (d := d + 4) W.n a2.n a2.dd I'
    have ole : sp_own (T 0 0) (od T G F q w day p).1 ≤ T 0 0 := own_le
    have hN : nxF (T 0 1) (fun i => p.getD i 0) = none := by
      unfold chB at hc
      cases e : nxF (T 0 1) (fun i => p.getD i 0) with
      | none => rfl
      | some f => rw [e] at hc; simp at hc
    have hb10 : ∀ k, (fun i => p.getD i 0) k < 10 := fun k => by
      show p.getD k 0 < 10
      by_cases g : k < p.length
      · have := hxp.2 _ (getD_mem p k 0 g); omega
      · rw [List.getD_eq_getElem?_getD, List.getElem?_eq_none (by omega)]; show 0 < 10; omega
    have fin : ∀ m2, fto m1 m2 → (∀ k, k < T 0 1 → m2.1 66 k = zn (p.getD k 0)) → ∃ m3, am_c (d + 5) y_Finder_goToNextOrder [.ref 25] m2 = some (some (.int (zn 0)), m3) ∧ fto m2 m3 ∧ m3.1 67 = m2.1 67 := by
      intro m2 f2 h26
      obtain ⟨m3, e1, e2, e3, e4⟩ := s_next (d := d + 3) hL (by rw [f2.2 27 (by omega), a4 27 (by omega)]; exact o.c.L) h26 hb10
      rw [hN] at e1
      exact ⟨m3, e1, ⟨e2, fun c hc => e3 c (by omega)⟩, e3 67 (by omega)⟩
    have f1 : fto m m1 := ⟨a3, fun c hc => a4 c (by omega)⟩
    have h26 : ∀ k, k < T 0 1 → m1.1 66 k = zn (p.getD k 0) := by rw [a4 66 (by omega)]; exact h6
    have stop : ∀ (z : Int32) (x : Option Value) (m3 : am_M), r_Finder_findBestOrder_12 71 (d + 5) (f + 1) z (zn 0) (zn (i + 1)) x m3 = some (some (.int z), m3) := by
      intro z x m3
      rw [e_Finder_findBestOrder_12 hk]
      by_cases g : 120 ≤ i + 1
      · rw [br_leT g (by simp at h1; omega)]
      · rw [br_leF (by omega) (by omega), br_eqT rfl]
    have take : ∀ z, zf a = z → z.toInt < sp_own (T 0 0) (od T G F q w day p).1 → ∃ m', r_Finder_findBestOrder_12 71 (d + 5) (f + 2) z (zn 1) (zn i) x5 m = some (some (.int (zn (sp_own (T 0 0) (od T G F q w day p).1))), m') ∧ fto m m' ∧ ∀ k, k < T 0 1 → m'.1 67 k = zn (p.getD k 0) := by
      intro z _ hz
      let m2 : am_M := (am_wc m1.1 66 67 0 0 5, m1.2)
      have e2 : ∀ c, c ≠ 67 → m2.1 c = m1.1 c := fun c hc => by show (am_wc m1.1 66 67 0 0 5) c = _; simp (disch := omega) only [w_ne, w_at, wl_ne, wl_at, wc_ne, wc_at, upd_at, upd_ne, upl_at, upl_ne, cpy_in0, zn_cl, zn_add, zn_mul, zn_sub, zn_pm, br_tt, br_ff, br_ltT, br_ltF, br_leT, br_leF, br_eqT, br_eqF, br_eqs, br_eqm, br_eqm', br_ltm, br_mlt, br_lem, br_mle, br_oiF, br_lgge, br_lgle, br_lggt, br_lglt, br_lgeq, br_zb, br_zb1, bV_s, bI_s, bL_s, zo_n, zo_s]
      have e67 : ∀ k, k < 5 → m2.1 67 k = m1.1 66 k := fun k hk => by show (am_wc m1.1 66 67 0 0 5) 67 k = _; simp (disch := omega) only [w_ne, w_at, wl_ne, wl_at, wc_ne, wc_at, upd_at, upd_ne, upl_at, upl_ne, cpy_in0, zn_cl, zn_add, zn_mul, zn_sub, zn_pm, br_tt, br_ff, br_ltT, br_ltF, br_leT, br_leF, br_eqT, br_eqF, br_eqs, br_eqm, br_eqm', br_ltm, br_mlt, br_lem, br_mle, br_oiF, br_lgge, br_lgle, br_lggt, br_lglt, br_lgeq, br_zb, br_zb1, bV_s, bI_s, bL_s, zo_n, zo_s]
      have f2 : fto m1 m2 := ⟨rfl, fun c hc => e2 c (by omega)⟩
      obtain ⟨m3, g1, g2, g3⟩ := fin m2 f2 (by rw [e2 66 (by omega)]; exact h26)
      have g1' : am_c (d + 5) y_Finder_goToNextOrder [.ref 25] (am_wc m1.1 66 67 0 0 5, m1.2) = some (some (.int (zn 0)), m3) := g1
      refine ⟨m3, ?_, fto_tr f1 (fto_tr f2 g2), ?_⟩
      · rw [e_Finder_findBestOrder_12 hk, br_leF (by simp at h1; omega) (by simp at h1; omega), br_eqF (by omega) (by omega) (by omega), a1, bV_s, b1, bI_s, br_le, zn_i (by omega), if_neg (by omega), g1', bI_s, zn_add, stop]
      · intro k hk; rw [g3, e67 k (by omega)]; exact h26 k hk
    rw [bst_c, bst_n]
    cases a with
    | none =>
      obtain ⟨m', g1, g2, g3⟩ := take zm rfl (by rw [zm_i]; omega)
      exact ⟨m', g1, g2, fun v x e => by cases e; exact ⟨Nat.le_trans ole hn5, g3⟩⟩
    | some vx =>
      obtain ⟨v, x⟩ := vx
      have hv := h7 v x rfl
      show ∃ m', r_Finder_findBestOrder_12 71 (d + 5) (f + 2) (zn v) (zn 1) (zn i) x5 m = some (some (.int (zf (if v < sp_own (T 0 0) (od T G F q w day p).1 then some (sp_own (T 0 0) (od T G F q w day p).1, p) else some (v, x)))), m') ∧ fto m m' ∧ ∀ v' x', (if v < sp_own (T 0 0) (od T G F q w day p).1 then some (sp_own (T 0 0) (od T G F q w day p).1, p) else some (v, x)) = some (v', x') → v' ≤ 5 ∧ ∀ k, k < T 0 1 → m'.1 67 k = zn (x'.getD k 0)
      by_cases g : v < sp_own (T 0 0) (od T G F q w day p).1
      · obtain ⟨m', g1, g2, g3⟩ := take (zn v) rfl (by rw [zn_i (by omega)]; omega)
        rw [if_pos g]
        exact ⟨m', g1, g2, fun v x e => by cases e; exact ⟨Nat.le_trans ole hn5, g3⟩⟩
      · obtain ⟨m3, g1, g2, g3⟩ := fin m1 (fto_refl m1) h26
        rw [if_neg g]
        refine ⟨m3, ?_, fto_tr f1 g2, fun v' x' e => by cases e; exact ⟨hv.1, fun k hk => by rw [g3, a4 67 (by omega)]; exact hv.2 k hk⟩⟩
        rw [e_Finder_findBestOrder_12 hk, br_leF (by simp at h1; omega) (by simp at h1; omega), br_eqF (by omega) (by omega) (by omega), a1, bV_s, b1, bI_s, br_leT (by omega) (by omega), g1, bI_s, zn_add, stop]; rfl
  | cons p2 t ih =>
    intro p i f a x5 m hc hx h1 h2 o h6 h7
    obtain ⟨f, rfl⟩ : ∃ g, f = g + 1 := ⟨f - 1, by omega⟩
    have hxp := hx p (by simp)
    obtain ⟨m1, a1, a2, a3, a4⟩ := s_tryOrder (d := d) W Q hd o hxp.1 hxp.2 h6
    have I' : hwI (T 0 0) (od T G F q w day p).1 (od T G F q w day p).2 := pass_hw (fun x hx => by have := Q.ms x hx; omega) Q.hw
    have b1 := s_countOwn hk9 (d := d + 4) W.n a2.n a2.dd I'
    have ole : sp_own (T 0 0) (od T G F q w day p).1 ≤ T 0 0 := own_le
    rw [List.length_cons] at h1 h2
    obtain ⟨pf, hN, hc2⟩ : ∃ pf, nxF (T 0 1) (fun i => p.getD i 0) = some pf ∧ p2 = (List.range (T 0 1)).map pf ∧ chB (T 0 1) (p2 :: t) = true := by
      rw [chB, Bool.and_eq_true] at hc
      cases e : nxF (T 0 1) (fun i => p.getD i 0) with
      | none => rw [e] at hc; simp at hc
      | some f => rw [e] at hc; exact ⟨f, rfl, of_decide_eq_true hc.1, hc.2⟩
    have hb10 : ∀ k, (fun i => p.getD i 0) k < 10 := fun k => by
      show p.getD k 0 < 10
      by_cases g : k < p.length
      · have := hxp.2 _ (getD_mem p k 0 g); omega
      · rw [List.getD_eq_getElem?_getD, List.getElem?_eq_none (by omega)]; show 0 < 10; omega
    have fin : ∀ m2, fto m1 m2 → (∀ k, k < T 0 1 → m2.1 66 k = zn (p.getD k 0)) → ∃ m3, am_c (d + 5) y_Finder_goToNextOrder [.ref 25] m2 = some (some (.int (zn 1)), m3) ∧ fto m2 m3 ∧ m3.1 67 = m2.1 67 ∧ ∀ k, k < T 0 1 → m3.1 66 k = zn (p2.getD k 0) := by
      intro m2 f2 h26
      obtain ⟨m3, e1, e2, e3, e4⟩ := s_next (d := d + 3) hL (by rw [f2.2 27 (by omega), a4 27 (by omega)]; exact o.c.L) h26 hb10
      rw [hN] at e1
      exact ⟨m3, e1, ⟨e2, fun c hc => e3 c (by omega)⟩, e3 67 (by omega), fun k hk => by rw [e4 pf hN k hk, hc2.1]; simp [List.getD_eq_getElem?_getD, hk]⟩
    have f1 : fto m m1 := ⟨a3, fun c hc => a4 c (by omega)⟩
    have h26 : ∀ k, k < T 0 1 → m1.1 66 k = zn (p.getD k 0) := by rw [a4 66 (by omega)]; exact h6
    have hx2 : ∀ x, x ∈ p2 :: t → x.length = T 0 1 ∧ ∀ l, l ∈ x → l < T 0 1 := fun x hm => hx x (List.mem_cons_of_mem _ hm)
    rw [bst_c]
    have take : ∀ z, zf a = z → z.toInt < sp_own (T 0 0) (od T G F q w day p).1 → ∃ m', r_Finder_findBestOrder_12 71 (d + 5) (f + 1) z (zn 1) (zn i) x5 m = some (some (.int (zf (bst (fun p => sp_own (T 0 0) (od T G F q w day p).1) (p2 :: t) (some (sp_own (T 0 0) (od T G F q w day p).1, p))))), m') ∧ fto m m' ∧ ∀ v x, bst (fun p => sp_own (T 0 0) (od T G F q w day p).1) (p2 :: t) (some (sp_own (T 0 0) (od T G F q w day p).1, p)) = some (v, x) → v ≤ 5 ∧ ∀ k, k < T 0 1 → m'.1 67 k = zn (x.getD k 0) := by
      intro z _ hz
      let m2 : am_M := (am_wc m1.1 66 67 0 0 5, m1.2)
      have e2 : ∀ c, c ≠ 67 → m2.1 c = m1.1 c := fun c hc => by show (am_wc m1.1 66 67 0 0 5) c = _; simp (disch := omega) only [w_ne, w_at, wl_ne, wl_at, wc_ne, wc_at, upd_at, upd_ne, upl_at, upl_ne, cpy_in0, zn_cl, zn_add, zn_mul, zn_sub, zn_pm, br_tt, br_ff, br_ltT, br_ltF, br_leT, br_leF, br_eqT, br_eqF, br_eqs, br_eqm, br_eqm', br_ltm, br_mlt, br_lem, br_mle, br_oiF, br_lgge, br_lgle, br_lggt, br_lglt, br_lgeq, br_zb, br_zb1, bV_s, bI_s, bL_s, zo_n, zo_s]
      have e67 : ∀ k, k < 5 → m2.1 67 k = m1.1 66 k := fun k hk => by show (am_wc m1.1 66 67 0 0 5) 67 k = _; simp (disch := omega) only [w_ne, w_at, wl_ne, wl_at, wc_ne, wc_at, upd_at, upd_ne, upl_at, upl_ne, cpy_in0, zn_cl, zn_add, zn_mul, zn_sub, zn_pm, br_tt, br_ff, br_ltT, br_ltF, br_leT, br_leF, br_eqT, br_eqF, br_eqs, br_eqm, br_eqm', br_ltm, br_mlt, br_lem, br_mle, br_oiF, br_lgge, br_lgle, br_lggt, br_lglt, br_lgeq, br_zb, br_zb1, bV_s, bI_s, bL_s, zo_n, zo_s]
      have f2 : fto m1 m2 := ⟨rfl, fun c hc => e2 c (by omega)⟩
      obtain ⟨m3, g1, g2, g3, g4⟩ := fin m2 f2 (by rw [e2 66 (by omega)]; exact h26)
      have g1' : am_c (d + 5) y_Finder_goToNextOrder [.ref 25] (am_wc m1.1 66 67 0 0 5, m1.2) = some (some (.int (zn 1)), m3) := g1
      have f3 := fto_tr f1 (fto_tr f2 g2)
      obtain ⟨m', i1, i2, i3⟩ := ih p2 (i + 1) f (some (sp_own (T 0 0) (od T G F q w day p).1, p)) (some (.int (zn (sp_own (T 0 0) (od T G F q w day p).1)))) m3 hc2.2 hx2 (by omega) (by omega) (o.to f3) g4 (fun v x e => by cases e; exact ⟨by omega, fun k hk => by rw [g3, e67 k (by omega)]; exact h26 k hk⟩)
      refine ⟨m', ?_, fto_tr f3 i2, i3⟩
      rw [e_Finder_findBestOrder_12 hk, br_leF (by omega) (by omega), br_eqF (by omega) (by omega) (by omega), a1, bV_s, b1, bI_s, br_le, zn_i (by omega), if_neg (by omega), g1', bI_s, zn_add]
      exact i1
    cases a with
    | none => exact take zm rfl (by rw [zm_i]; omega)
    | some vx =>
      obtain ⟨v, x⟩ := vx
      have hv := h7 v x rfl
      show ∃ m', r_Finder_findBestOrder_12 71 (d + 5) (f + 1) (zn v) (zn 1) (zn i) x5 m = some (some (.int (zf (bst _ (p2 :: t) (if v < sp_own (T 0 0) (od T G F q w day p).1 then some (sp_own (T 0 0) (od T G F q w day p).1, p) else some (v, x))))), m') ∧ fto m m' ∧ ∀ v' x', bst _ (p2 :: t) (if v < sp_own (T 0 0) (od T G F q w day p).1 then some (sp_own (T 0 0) (od T G F q w day p).1, p) else some (v, x)) = some (v', x') → v' ≤ 5 ∧ ∀ k, k < T 0 1 → m'.1 67 k = zn (x'.getD k 0)
      by_cases g : v < sp_own (T 0 0) (od T G F q w day p).1
      · rw [if_pos g]
        exact take (zn v) rfl (by rw [zn_i (by omega)]; omega)
      · rw [if_neg g]
        obtain ⟨m3, g1, g2, g3, g4⟩ := fin m1 (fto_refl m1) h26
        have f3 := fto_tr f1 g2
        obtain ⟨m', i1, i2, i3⟩ := ih p2 (i + 1) f (some (v, x)) (some (.int (zn (sp_own (T 0 0) (od T G F q w day p).1)))) m3 hc2.2 hx2 (by omega) (by omega) (o.to f3) g4 (fun v' x' e => by cases e; exact ⟨hv.1, fun k hk => by rw [g3, a4 67 (by omega)]; exact hv.2 k hk⟩)
        refine ⟨m', ?_, fto_tr f3 i2, i3⟩
        rw [e_Finder_findBestOrder_12 hk, br_leF (by omega) (by omega), br_eqF (by omega) (by omega) (by omega), a1, bV_s, b1, bI_s, br_leT (by omega) (by omega), g1, bI_s, zn_add]
        exact i1
