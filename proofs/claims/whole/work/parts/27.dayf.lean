/-! the day of the class: lamps, thieves, noon, the whole day -/
theorem sd_set {k n t : Nat} {o : Option Nat} {h : Hs} {w : List Nat} {m : am_M} (s : sd k n h w m) (ht : t < n) : sd k n (sp_set h t o) w (am_w m.1 (k + 1) t (zo o), m.2) ∧ fsd k m (am_w m.1 (k + 1) t (zo o), m.2) := by
  obtain ⟨h1, h2, h3⟩ := s
  refine ⟨⟨?_, ?_, ?_⟩, rfl, ?_, ?_⟩
  · intro i hi
    by_cases e : i = t
    · subst e; simp (disch := omega) only [w_ne, w_at, wl_ne, wl_at, wc_ne, wc_at, upd_at, upd_ne, upl_at, upl_ne, cpy_in0, zn_cl, zn_add, zn_mul, zn_sub, zn_pm, br_tt, br_ff, br_ltT, br_ltF, br_leT, br_leF, br_eqT, br_eqF, br_eqs, br_eqm, br_eqm', br_ltm, br_mlt, br_lem, br_mle, br_oiF, br_lgge, br_lgle, br_lggt, br_lglt, br_lgeq, br_zb, br_zb1, bV_s, bI_s, bL_s, zo_n, zo_s, set_at]
    · simp (disch := omega) only [w_ne, w_at, wl_ne, wl_at, wc_ne, wc_at, upd_at, upd_ne, upl_at, upl_ne, cpy_in0, zn_cl, zn_add, zn_mul, zn_sub, zn_pm, br_tt, br_ff, br_ltT, br_ltF, br_leT, br_leF, br_eqT, br_eqF, br_eqs, br_eqm, br_eqm', br_ltm, br_mlt, br_lem, br_mle, br_oiF, br_lgge, br_lgle, br_lggt, br_lglt, br_lgeq, br_zb, br_zb1, bV_s, bI_s, bL_s, zo_n, zo_s, set_ne, h1]
  · simp (disch := omega) only [w_ne, w_at, wl_ne, wl_at, wc_ne, wc_at, upd_at, upd_ne, upl_at, upl_ne, cpy_in0, zn_cl, zn_add, zn_mul, zn_sub, zn_pm, br_tt, br_ff, br_ltT, br_ltF, br_leT, br_leF, br_eqT, br_eqF, br_eqs, br_eqm, br_eqm', br_ltm, br_mlt, br_lem, br_mle, br_oiF, br_lgge, br_lgle, br_lggt, br_lglt, br_lgeq, br_zb, br_zb1, bV_s, bI_s, bL_s, zo_n, zo_s, h2]
  · intro i hi; simp (disch := omega) only [w_ne, w_at, wl_ne, wl_at, wc_ne, wc_at, upd_at, upd_ne, upl_at, upl_ne, cpy_in0, zn_cl, zn_add, zn_mul, zn_sub, zn_pm, br_tt, br_ff, br_ltT, br_ltF, br_leT, br_leF, br_eqT, br_eqF, br_eqs, br_eqm, br_eqm', br_ltm, br_mlt, br_lem, br_mle, br_oiF, br_lgge, br_lgle, br_lggt, br_lglt, br_lgeq, br_zb, br_zb1, bV_s, bI_s, bL_s, zo_n, zo_s, h3]
  · intro c c1 c2 c3; simp (disch := omega) only [w_ne, w_at, wl_ne, wl_at, wc_ne, wc_at, upd_at, upd_ne, upl_at, upl_ne, cpy_in0, zn_cl, zn_add, zn_mul, zn_sub, zn_pm, br_tt, br_ff, br_ltT, br_ltF, br_leT, br_leF, br_eqT, br_eqF, br_eqs, br_eqm, br_eqm', br_ltm, br_mlt, br_lem, br_mle, br_oiF, br_lgge, br_lgle, br_lggt, br_lglt, br_lgeq, br_zb, br_zb1, bV_s, bI_s, bL_s, zo_n, zo_s]
  · intro i hi; simp (disch := omega) only [w_ne, w_at, wl_ne, wl_at, wc_ne, wc_at, upd_at, upd_ne, upl_at, upl_ne, cpy_in0, zn_cl, zn_add, zn_mul, zn_sub, zn_pm, br_tt, br_ff, br_ltT, br_ltF, br_leT, br_leF, br_eqT, br_eqF, br_eqs, br_eqm, br_eqm', br_ltm, br_mlt, br_lem, br_mle, br_oiF, br_lgge, br_lgle, br_lggt, br_lglt, br_lgeq, br_zb, br_zb1, bV_s, bI_s, bL_s, zo_n, zo_s]
theorem lp_light {k : Nat} (hk : sc_k k) {T V : Td} {E : Ev} (W : tw T V) {ord : List Nat} {U : Nat → Nat} {mt : List (Nat × Nat)} {day d l : Nat} {g : Nat → Int64} (hU : ∀ l, l < T 0 1 → U l < 30) (hl : l < T 0 1) (r : Nat) :
    ∀ (i f : Nat) (h : Hs) (w : List Nat) (x : Option Value) (m : am_M), i + r = T 0 0 → r < f → cx T V E m → sn k T ord U mt h w day m → hwI (T 0 0) h w → (∀ q, q < T 0 0 → m.2 51 (l * 5 + q) = g q) →
    ∃ m', r_Day_light_2 k (d + 2) f (zn l) (zn i) x m = some (none, m') ∧ sn k T ord U mt (sp_light T V U g l r h w).1 (sp_light T V U g l r h w).2 day m' ∧ fsd k m m' := by
  induction r with
  | zero =>
    intro i f h w x m h1 h2 c s I hg
    have := W.n
    obtain ⟨f, rfl⟩ : ∃ g, f = g + 1 := ⟨f - 1, by omega⟩
    refine ⟨m, ?_, s, fsd_refl k m⟩
    rw [e_Day_light_2 hk]
    simp (disch := omega) only [w_ne, w_at, wl_ne, wl_at, wc_ne, wc_at, upd_at, upd_ne, upl_at, upl_ne, cpy_in0, zn_cl, zn_add, zn_mul, zn_sub, zn_pm, br_tt, br_ff, br_ltT, br_ltF, br_leT, br_leF, br_eqT, br_eqF, br_eqs, br_eqm, br_eqm', br_ltm, br_mlt, br_lem, br_mle, br_oiF, br_lgge, br_lgle, br_lggt, br_lglt, br_lgeq, br_zb, br_zb1, bV_s, bI_s, bL_s, zo_n, zo_s, c.n]
  | succ r ih =>
    intro i f h w x m h1 h2 c s I hg
    have := W.n; have := hw_len I
    obtain ⟨f, rfl⟩ : ∃ g, f = g + 1 := ⟨f - 1, by omega⟩
    by_cases h0 : w.length = 0
    · refine ⟨m, ?_, ?_, fsd_refl k m⟩
      · rw [e_Day_light_2 hk]
        simp (disch := omega) only [w_ne, w_at, wl_ne, wl_at, wc_ne, wc_at, upd_at, upd_ne, upl_at, upl_ne, cpy_in0, zn_cl, zn_add, zn_mul, zn_sub, zn_pm, br_tt, br_ff, br_ltT, br_ltF, br_leT, br_leF, br_eqT, br_eqF, br_eqs, br_eqm, br_eqm', br_ltm, br_mlt, br_lem, br_mle, br_oiF, br_lgge, br_lgle, br_lggt, br_lglt, br_lgeq, br_zb, br_zb1, bV_s, bI_s, bL_s, zo_n, zo_s, c.n, s.wl]
      · rw [light_nil h0]; exact s
    · have e0 := s_nextAt hk W (d := d) c s.hs (fun i s hi e => hw_h I hi e) s.hu hU hl hg
      cases e : sp_min (sp_wt T V U l h) g (T 0 0) 0 none with
      | none =>
        refine ⟨m, ?_, ?_, fsd_refl k m⟩
        · rw [e_Day_light_2 hk]
          simp (disch := omega) only [w_ne, w_at, wl_ne, wl_at, wc_ne, wc_at, upd_at, upd_ne, upl_at, upl_ne, cpy_in0, zn_cl, zn_add, zn_mul, zn_sub, zn_pm, br_tt, br_ff, br_ltT, br_ltF, br_leT, br_leF, br_eqT, br_eqF, br_eqs, br_eqm, br_eqm', br_ltm, br_mlt, br_lem, br_mle, br_oiF, br_lgge, br_lgle, br_lggt, br_lglt, br_lgeq, br_zb, br_zb1, bV_s, bI_s, bL_s, zo_n, zo_s, c.n, s.wl, e0, e]
        · rw [light_none e]; exact s
      | some t =>
        obtain ⟨ht, e1⟩ := light_pick e
        have hch := ch_lt (T := T) (V := V) (w := w) (t := t) (by omega)
        have e2 := s_choose hk W (d := d) c (by omega) (by omega) s.wl s.ws (fun i hi => hw_g I hi) ht
        obtain ⟨m1, a1, a2, a3⟩ := s_take hk (d := d + 1) (by omega) s.dd hch
        obtain ⟨b1, b2⟩ := sd_set (o := some (w.getD (sp_ch T V w t) 0)) a2 ht
        have f3 := fsd_tr a3 b2
        obtain ⟨m', c1, c2, c3⟩ := ih (i + 1) f _ _ (some (.int (zn t))) _ (by omega) (by omega) (c.fs hk f3) (s.to b1 f3) (hw_take I ht e1 hch) (by show ∀ q, _ → m1.2 51 _ = _; rw [a3.1]; exact hg)
        refine ⟨m', ?_, ?_, fsd_tr f3 c3⟩
        · rw [e_Day_light_2 hk]
          simp (disch := omega) only [w_ne, w_at, wl_ne, wl_at, wc_ne, wc_at, upd_at, upd_ne, upl_at, upl_ne, cpy_in0, zn_cl, zn_add, zn_mul, zn_sub, zn_pm, br_tt, br_ff, br_ltT, br_ltF, br_leT, br_leF, br_eqT, br_eqF, br_eqs, br_eqm, br_eqm', br_ltm, br_mlt, br_lem, br_mle, br_oiF, br_lgge, br_lgle, br_lggt, br_lglt, br_lgeq, br_zb, br_zb1, bV_s, bI_s, bL_s, zo_n, zo_s, c.n, s.wl, e0, e, e2, a1]
          exact c1
        · rw [light_some (by omega) e]; exact c2
theorem s_light {k : Nat} (hk : sc_k k) {T V : Td} {E : Ev} (W : tw T V) {ord : List Nat} {U : Nat → Nat} {mt : List (Nat × Nat)} {day d l : Nat} {g : Nat → Int64} (hU : ∀ l, l < T 0 1 → U l < 30) (hl : l < T 0 1) {h : Hs} {w : List Nat} {m : am_M} (c : cx T V E m) (s : sn k T ord U mt h w day m) (I : hwI (T 0 0) h w) (hg : ∀ q, q < T 0 0 → m.2 51 (l * 5 + q) = g q) :
    ∃ m', am_c (d + 3) y_Day_light [.ref 26, .ref k, .int (zn l)] m = some (none, m') ∧ sn k T ord U mt (sp_light T V U g l (T 0 0) h w).1 (sp_light T V U g l (T 0 0) h w).2 day m' ∧ fsd k m m' := by
  have := W.n
  rw [n_Day_light hk]
  exact lp_light hk W hU hl (T 0 0) 0 29999 h w none m (by omega) (by omega) c s I hg
theorem br_zoN {o : Option Nat} {i : Nat} {t f : am_R} (h : ∀ s, o = some s → s < 2147483648) (hi : i < 2147483648) : am_b (am_eq (zo o) (zn i)) t f = if o = some i then t else f := by
  rw [br_eq, ← zo_s]
  have e := zo_inj (o := o) (p := some i) h (by intro a ha; cases ha; exact hi)
  by_cases h1 : o = some i
  · rw [if_pos h1, if_pos (e.mpr h1)]
  · rw [if_neg h1, if_neg (fun q => h1 (e.mp q))]
theorem s_swapIf {k : Nat} (hk : sc_k k) {d n a b : Nat} {h : Hs} {w : List Nat} {m : am_M} (hn : n ≤ 5) (s : sd k n h w m) (I : hwI n h w) (ha : a < n) (hb : b < n) (hab : a ≠ b) :
    ∃ m', am_c (d + 2) y_Scene_swapIfMoreOwn [.ref k, .int (zn a), .int (zn b)] m = some (none, m') ∧ sd k n (sp_mt h a b) w m' ∧ fsd k m m' := by
  obtain ⟨m1, a1, a2, a3⟩ := s_exchange hk (d := d) hn s ha hb hab
  have B : ∀ i, i < n → ∀ s, h i = some s → s < 2147483648 := fun i hi s e => by have := hw_h I hi e; omega
  have p1 : ∀ t f : am_R, am_b (am_eq (zo (h a)) (zn a)) t f = if h a = some a then t else f := fun t f => br_zoN (B a ha) (by omega)
  have p2 : ∀ t f : am_R, am_b (am_eq (zo (h b)) (zn b)) t f = if h b = some b then t else f := fun t f => br_zoN (B b hb) (by omega)
  have p3 : ∀ t f : am_R, am_b (am_eq (zo (h b)) (zn a)) t f = if h b = some a then t else f := fun t f => br_zoN (B b hb) (by omega)
  have p4 : ∀ t f : am_R, am_b (am_eq (zo (h a)) (zn b)) t f = if h a = some b then t else f := fun t f => br_zoN (B a ha) (by omega)
  have A : ∀ x y, x ≠ y → ∀ o : Option Nat, (o = some x ∧ o ≠ some y) ∨ (o ≠ some x ∧ o = some y) ∨ (o ≠ some x ∧ o ≠ some y) := by
    intro x y hxy o
    by_cases e : o = some x
    · exact Or.inl ⟨e, fun f => hxy (by rw [e] at f; injection f)⟩
    · by_cases f : o = some y
      · exact Or.inr (Or.inl ⟨e, f⟩)
      · exact Or.inr (Or.inr ⟨e, f⟩)
  have run : am_c (d + 2) y_Scene_swapIfMoreOwn [.ref k, .int (zn a), .int (zn b)] m = if sp_is a (h a) + sp_is b (h b) < sp_is a (h b) + sp_is b (h a) then some (none, m1) else some (none, m) := by
    rw [n_Scene_swapIfMoreOwn hk]
    simp (disch := omega) only [w_ne, w_at, wl_ne, wl_at, wc_ne, wc_at, upd_at, upd_ne, upl_at, upl_ne, cpy_in0, zn_cl, zn_add, zn_mul, zn_sub, zn_pm, br_tt, br_ff, br_ltT, br_ltF, br_leT, br_leF, br_eqT, br_eqF, br_eqs, br_eqm, br_eqm', br_ltm, br_mlt, br_lem, br_mle, br_oiF, br_lgge, br_lgle, br_lggt, br_lglt, br_lgeq, br_zb, br_zb1, bV_s, bI_s, bL_s, zo_n, zo_s, s.1, p1, p2, p3, p4, a1]
    unfold sp_is
    have hba : ¬ b = a := fun e => hab e.symm
    rcases A a b hab (h a) with ⟨q1, q2⟩ | ⟨q1, q2⟩ | ⟨q1, q2⟩ <;> rcases A a b hab (h b) with ⟨q3, q4⟩ | ⟨q3, q4⟩ | ⟨q3, q4⟩ <;> simp [q1, q2, q3, q4, hab, hba]
  unfold sp_mt
  by_cases q : sp_is a (h a) + sp_is b (h b) < sp_is a (h b) + sp_is b (h a)
  · rw [if_pos q] at run ⊢; exact ⟨m1, run, a2, a3⟩
  · rw [if_neg q] at run ⊢; exact ⟨m, run, s, fsd_refl k m⟩
theorem drop_getD {α : Type} (l : List α) (i : Nat) (x : α) (h : i < l.length) : l.drop i = l.getD i x :: l.drop (i + 1) := by
  rw [List.drop_eq_getElem_cons h, List.getD_eq_getElem?_getD, List.getElem?_eq_getElem h]; rfl
theorem getD_mem {α : Type} (l : List α) (i : Nat) (x : α) (h : i < l.length) : l.getD i x ∈ l := by
  rw [List.getD_eq_getElem?_getD, List.getElem?_eq_getElem h]; exact List.getElem_mem h
theorem lp_noon {k : Nat} (hk : sc_k k) {T V : Td} (W : tw T V) {ord : List Nat} {U : Nat → Nat} {mt : List (Nat × Nat)} {day d : Nat} {w : List Nat} (S : sw T ord U mt day) (r : Nat) :
    ∀ (i f : Nat) (h : Hs) (m : am_M), i + r = mt.length → r < f → sn k T ord U mt h w day m → hwI (T 0 0) h w →
    ∃ m', r_Day_meetAtNoon_2 k (d + 2) f (zn i) m = some (none, m') ∧ sn k T ord U mt (sp_noon (mt.drop i) h) w day m' ∧ fsd k m m' := by
  induction r with
  | zero =>
    intro i f h m h1 h2 s I
    have := S.ml
    obtain ⟨f, rfl⟩ : ∃ g, f = g + 1 := ⟨f - 1, by omega⟩
    refine ⟨m, ?_, ?_, fsd_refl k m⟩
    · rw [e_Day_meetAtNoon_2 hk]
      simp (disch := omega) only [w_ne, w_at, wl_ne, wl_at, wc_ne, wc_at, upd_at, upd_ne, upl_at, upl_ne, cpy_in0, zn_cl, zn_add, zn_mul, zn_sub, zn_pm, br_tt, br_ff, br_ltT, br_ltF, br_leT, br_leF, br_eqT, br_eqF, br_eqs, br_eqm, br_eqm', br_ltm, br_mlt, br_lem, br_mle, br_oiF, br_lgge, br_lgle, br_lggt, br_lglt, br_lgeq, br_zb, br_zb1, bV_s, bI_s, bL_s, zo_n, zo_s, s.ml]
    · rw [List.drop_eq_nil_of_le (by omega)]; exact s
  | succ r ih =>
    intro i f h m h1 h2 s I
    have := S.ml; have := W.n
    obtain ⟨f, rfl⟩ : ∃ g, f = g + 1 := ⟨f - 1, by omega⟩
    obtain ⟨hp1, hp2, hp3⟩ := S.ms _ (getD_mem mt i (0, 0) (by omega))
    have e0 : sp_noon (mt.drop i) h = sp_noon (mt.drop (i + 1)) (sp_mt h (mt.getD i (0, 0)).1 (mt.getD i (0, 0)).2) := by
      rw [drop_getD mt i (0, 0) (by omega)]; rfl
    have I2 : hwI (T 0 0) (sp_mt h (mt.getD i (0, 0)).1 (mt.getD i (0, 0)).2) w := by
      unfold sp_mt; split
      · exact hw_swp I hp1 hp2 hp3
      · exact I
    rw [e0]
    rcases s.ms i (by omega) with ⟨q1, q2⟩ | ⟨q1, q2⟩
    · obtain ⟨m1, a1, a2, a3⟩ := s_swapIf hk (d := d) W.n s.dd I hp1 hp2 hp3
      obtain ⟨m', b1, b2, b3⟩ := ih (i + 1) f _ m1 (by omega) (by omega) (s.to a2 a3) I2
      refine ⟨m', ?_, b2, fsd_tr a3 b3⟩
      rw [e_Day_meetAtNoon_2 hk]
      simp (disch := omega) only [w_ne, w_at, wl_ne, wl_at, wc_ne, wc_at, upd_at, upd_ne, upl_at, upl_ne, cpy_in0, zn_cl, zn_add, zn_mul, zn_sub, zn_pm, br_tt, br_ff, br_ltT, br_ltF, br_leT, br_leF, br_eqT, br_eqF, br_eqs, br_eqm, br_eqm', br_ltm, br_mlt, br_lem, br_mle, br_oiF, br_lgge, br_lgle, br_lggt, br_lglt, br_lgeq, br_zb, br_zb1, bV_s, bI_s, bL_s, zo_n, zo_s, s.ml, q1, q2, a1, b1]
    · obtain ⟨m1, a1, a2, a3⟩ := s_swapIf hk (d := d) W.n s.dd I hp2 hp1 (fun e => hp3 e.symm)
      rw [mt_comm (fun e => hp3 e.symm)] at a2
      obtain ⟨m', b1, b2, b3⟩ := ih (i + 1) f _ m1 (by omega) (by omega) (s.to a2 a3) I2
      refine ⟨m', ?_, b2, fsd_tr a3 b3⟩
      rw [e_Day_meetAtNoon_2 hk]
      simp (disch := omega) only [w_ne, w_at, wl_ne, wl_at, wc_ne, wc_at, upd_at, upd_ne, upl_at, upl_ne, cpy_in0, zn_cl, zn_add, zn_mul, zn_sub, zn_pm, br_tt, br_ff, br_ltT, br_ltF, br_leT, br_leF, br_eqT, br_eqF, br_eqs, br_eqm, br_eqm', br_ltm, br_mlt, br_lem, br_mle, br_oiF, br_lgge, br_lgle, br_lggt, br_lglt, br_lgeq, br_zb, br_zb1, bV_s, bI_s, bL_s, zo_n, zo_s, s.ml, q1, q2, a1, b1]
theorem s_noon {k : Nat} (hk : sc_k k) {T V : Td} (W : tw T V) {ord : List Nat} {U : Nat → Nat} {mt : List (Nat × Nat)} {day d : Nat} {w : List Nat} {h : Hs} {m : am_M} (S : sw T ord U mt day) (s : sn k T ord U mt h w day m) (I : hwI (T 0 0) h w) :
    ∃ m', am_c (d + 3) y_Day_meetAtNoon [.ref k] m = some (none, m') ∧ sn k T ord U mt (sp_noon mt h) w day m' ∧ fsd k m m' := by
  have := S.ml
  rw [n_Day_meetAtNoon hk]
  exact lp_noon hk W S mt.length 0 29999 h m (by omega) (by omega) s I
/-- the next day -/
theorem sn.next {k : Nat} {T : Td} {ord : List Nat} {U : Nat → Nat} {mt : List (Nat × Nat)} {h : Hs} {w : List Nat} {day : Nat} {m : am_M} (s : sn k T ord U mt h w day m) : sn k T ord U mt h w (day + 1) (am_w m.1 k 10 (zn (day + 1)), m.2) ∧ fdy k m (am_w m.1 k 10 (zn (day + 1)), m.2) := by
  refine ⟨⟨?_, ?_, ?_, ?_, ?_, ?_, ?_, ?_, ?_, ?_⟩, ?_, ?_, ?_⟩
  · simp (disch := omega) only [w_ne, w_at, wl_ne, wl_at, wc_ne, wc_at, upd_at, upd_ne, upl_at, upl_ne, cpy_in0, zn_cl, zn_add, zn_mul, zn_sub, zn_pm, br_tt, br_ff, br_ltT, br_ltF, br_leT, br_leF, br_eqT, br_eqF, br_eqs, br_eqm, br_eqm', br_ltm, br_mlt, br_lem, br_mle, br_oiF, br_lgge, br_lgle, br_lggt, br_lglt, br_lgeq, br_zb, br_zb1, bV_s, bI_s, bL_s, zo_n, zo_s, s.n]
  · intro i hi; simp (disch := omega) only [w_ne, w_at, wl_ne, wl_at, wc_ne, wc_at, upd_at, upd_ne, upl_at, upl_ne, cpy_in0, zn_cl, zn_add, zn_mul, zn_sub, zn_pm, br_tt, br_ff, br_ltT, br_ltF, br_leT, br_leF, br_eqT, br_eqF, br_eqs, br_eqm, br_eqm', br_ltm, br_mlt, br_lem, br_mle, br_oiF, br_lgge, br_lgle, br_lggt, br_lglt, br_lgeq, br_zb, br_zb1, bV_s, bI_s, bL_s, zo_n, zo_s, s.hs]
  · simp (disch := omega) only [w_ne, w_at, wl_ne, wl_at, wc_ne, wc_at, upd_at, upd_ne, upl_at, upl_ne, cpy_in0, zn_cl, zn_add, zn_mul, zn_sub, zn_pm, br_tt, br_ff, br_ltT, br_ltF, br_leT, br_leF, br_eqT, br_eqF, br_eqs, br_eqm, br_eqm', br_ltm, br_mlt, br_lem, br_mle, br_oiF, br_lgge, br_lgle, br_lggt, br_lglt, br_lgeq, br_zb, br_zb1, bV_s, bI_s, bL_s, zo_n, zo_s, s.wl]
  · intro i hi; simp (disch := omega) only [w_ne, w_at, wl_ne, wl_at, wc_ne, wc_at, upd_at, upd_ne, upl_at, upl_ne, cpy_in0, zn_cl, zn_add, zn_mul, zn_sub, zn_pm, br_tt, br_ff, br_ltT, br_ltF, br_leT, br_leF, br_eqT, br_eqF, br_eqs, br_eqm, br_eqm', br_ltm, br_mlt, br_lem, br_mle, br_oiF, br_lgge, br_lgle, br_lggt, br_lglt, br_lgeq, br_zb, br_zb1, bV_s, bI_s, bL_s, zo_n, zo_s, s.ws]
  · simp (disch := omega) only [w_ne, w_at, wl_ne, wl_at, wc_ne, wc_at, upd_at, upd_ne, upl_at, upl_ne, cpy_in0, zn_cl, zn_add, zn_mul, zn_sub, zn_pm, br_tt, br_ff, br_ltT, br_ltF, br_leT, br_leF, br_eqT, br_eqF, br_eqs, br_eqm, br_eqm', br_ltm, br_mlt, br_lem, br_mle, br_oiF, br_lgge, br_lgle, br_lggt, br_lglt, br_lgeq, br_zb, br_zb1, bV_s, bI_s, bL_s, zo_n, zo_s]
  · simp (disch := omega) only [w_ne, w_at, wl_ne, wl_at, wc_ne, wc_at, upd_at, upd_ne, upl_at, upl_ne, cpy_in0, zn_cl, zn_add, zn_mul, zn_sub, zn_pm, br_tt, br_ff, br_ltT, br_ltF, br_leT, br_leF, br_eqT, br_eqF, br_eqs, br_eqm, br_eqm', br_ltm, br_mlt, br_lem, br_mle, br_oiF, br_lgge, br_lgle, br_lggt, br_lglt, br_lgeq, br_zb, br_zb1, bV_s, bI_s, bL_s, zo_n, zo_s, s.ol]
  · intro i hi; simp (disch := omega) only [w_ne, w_at, wl_ne, wl_at, wc_ne, wc_at, upd_at, upd_ne, upl_at, upl_ne, cpy_in0, zn_cl, zn_add, zn_mul, zn_sub, zn_pm, br_tt, br_ff, br_ltT, br_ltF, br_leT, br_leF, br_eqT, br_eqF, br_eqs, br_eqm, br_eqm', br_ltm, br_mlt, br_lem, br_mle, br_oiF, br_lgge, br_lgle, br_lggt, br_lglt, br_lgeq, br_zb, br_zb1, bV_s, bI_s, bL_s, zo_n, zo_s, s.os]
  · intro i hi; simp (disch := omega) only [w_ne, w_at, wl_ne, wl_at, wc_ne, wc_at, upd_at, upd_ne, upl_at, upl_ne, cpy_in0, zn_cl, zn_add, zn_mul, zn_sub, zn_pm, br_tt, br_ff, br_ltT, br_ltF, br_leT, br_leF, br_eqT, br_eqF, br_eqs, br_eqm, br_eqm', br_ltm, br_mlt, br_lem, br_mle, br_oiF, br_lgge, br_lgle, br_lggt, br_lglt, br_lgeq, br_zb, br_zb1, bV_s, bI_s, bL_s, zo_n, zo_s, s.hu]
  · simp (disch := omega) only [w_ne, w_at, wl_ne, wl_at, wc_ne, wc_at, upd_at, upd_ne, upl_at, upl_ne, cpy_in0, zn_cl, zn_add, zn_mul, zn_sub, zn_pm, br_tt, br_ff, br_ltT, br_ltF, br_leT, br_leF, br_eqT, br_eqF, br_eqs, br_eqm, br_eqm', br_ltm, br_mlt, br_lem, br_mle, br_oiF, br_lgge, br_lgle, br_lggt, br_lglt, br_lgeq, br_zb, br_zb1, bV_s, bI_s, bL_s, zo_n, zo_s, s.ml]
  · intro i hi; simp (disch := omega) only [w_ne, w_at, wl_ne, wl_at, wc_ne, wc_at, upd_at, upd_ne, upl_at, upl_ne, cpy_in0, zn_cl, zn_add, zn_mul, zn_sub, zn_pm, br_tt, br_ff, br_ltT, br_ltF, br_leT, br_leF, br_eqT, br_eqF, br_eqs, br_eqm, br_eqm', br_ltm, br_mlt, br_lem, br_mle, br_oiF, br_lgge, br_lgle, br_lggt, br_lglt, br_lgeq, br_zb, br_zb1, bV_s, bI_s, bL_s, zo_n, zo_s]; exact s.ms i hi
  · intro c _ _ _ _; rfl
  · intro c c1 c2 c3; simp (disch := omega) only [w_ne, w_at, wl_ne, wl_at, wc_ne, wc_at, upd_at, upd_ne, upl_at, upl_ne, cpy_in0, zn_cl, zn_add, zn_mul, zn_sub, zn_pm, br_tt, br_ff, br_ltT, br_ltF, br_leT, br_leF, br_eqT, br_eqF, br_eqs, br_eqm, br_eqm', br_ltm, br_mlt, br_lem, br_mle, br_oiF, br_lgge, br_lgle, br_lggt, br_lglt, br_lgeq, br_zb, br_zb1, bV_s, bI_s, bL_s, zo_n, zo_s]
  · intro i i1 i2; simp (disch := omega) only [w_ne, w_at, wl_ne, wl_at, wc_ne, wc_at, upd_at, upd_ne, upl_at, upl_ne, cpy_in0, zn_cl, zn_add, zn_mul, zn_sub, zn_pm, br_tt, br_ff, br_ltT, br_ltF, br_leT, br_leF, br_eqT, br_eqF, br_eqs, br_eqm, br_eqm', br_ltm, br_mlt, br_lem, br_mle, br_oiF, br_lgge, br_lgle, br_lggt, br_lglt, br_lgeq, br_zb, br_zb1, bV_s, bI_s, bL_s, zo_n, zo_s]
theorem lp_thv {k : Nat} (hk : sc_k k) {T V : Td} {E : Ev} (W : tw T V) {ord : List Nat} {U : Nat → Nat} {mt : List (Nat × Nat)} {day d : Nat} (S : sw T ord U mt day) (r : Nat) :
    ∀ (t f : Nat) (h : Hs) (w : List Nat) (m : am_M), t + r = T 0 0 → r < f → cx T V E m → sn k T ord U mt h w day m → hwI (T 0 0) h w →
    ∃ m', r_Day_finish_29 k (d + 3) f (zn t) m = some (none, m') ∧ sn k T ord U mt (sp_noon mt (sp_thv T V r t h w).1) (sp_thv T V r t h w).2 (day + 1) m' ∧ fdy k m m' := by
  induction r with
  | zero =>
    intro t f h w m h1 h2 c s I
    have := W.n
    obtain ⟨f, rfl⟩ : ∃ g, f = g + 1 := ⟨f - 1, by omega⟩
    obtain ⟨m1, a1, a2, a3⟩ := s_noon hk W (d := d) S s I
    obtain ⟨b1, b2⟩ := a2.next
    refine ⟨_, ?_, b1, fdy_tr a3.y b2⟩
    rw [e_Day_finish_29 hk]
    simp (disch := omega) only [w_ne, w_at, wl_ne, wl_at, wc_ne, wc_at, upd_at, upd_ne, upl_at, upl_ne, cpy_in0, zn_cl, zn_add, zn_mul, zn_sub, zn_pm, br_tt, br_ff, br_ltT, br_ltF, br_leT, br_leF, br_eqT, br_eqF, br_eqs, br_eqm, br_eqm', br_ltm, br_mlt, br_lem, br_mle, br_oiF, br_lgge, br_lgle, br_lggt, br_lglt, br_lgeq, br_zb, br_zb1, bV_s, bI_s, bL_s, zo_n, zo_s, c.n, a1, a2.dy]
  | succ r ih =>
    intro t f h w m h1 h2 c s I
    have := W.n; have := hw_len I; have := W.hw t (by omega)
    obtain ⟨f, rfl⟩ : ∃ g, f = g + 1 := ⟨f - 1, by omega⟩
    rw [sp_thv]
    by_cases q1 : V 1 t = 1
    · cases q2 : h t with
      | some q =>
        have := hw_h I (by omega) q2
        obtain ⟨m', b1, b2, b3⟩ := ih (t + 1) f h w m (by omega) (by omega) c s I
        simp only [reduceCtorEq, false_and, and_false, if_false]
        refine ⟨m', ?_, b2, b3⟩
        rw [e_Day_finish_29 hk]
        simp (disch := omega) only [w_ne, w_at, wl_ne, wl_at, wc_ne, wc_at, upd_at, upd_ne, upl_at, upl_ne, cpy_in0, zn_cl, zn_add, zn_mul, zn_sub, zn_pm, br_tt, br_ff, br_ltT, br_ltF, br_leT, br_leF, br_eqT, br_eqF, br_eqs, br_eqm, br_eqm', br_ltm, br_mlt, br_lem, br_mle, br_oiF, br_lgge, br_lgle, br_lggt, br_lglt, br_lgeq, br_zb, br_zb1, bV_s, bI_s, bL_s, zo_n, zo_s, c.n, c.hw, s.hs, q1, q2, b1]
      | none =>
        have e0 := s_greatest hk W (d := d + 1) c (by omega) s.wl s.ws (fun i hi => hw_g I hi)
        by_cases q3 : 0 < w.length
        · have hg := gr_lt (T := T) q3
          obtain ⟨m1, a1, a2, a3⟩ := s_take hk (d := d + 2) (by omega) s.dd hg
          obtain ⟨b1, b2⟩ := sd_set (o := some (w.getD (sp_gr T w) 0)) a2 (t := t) (by omega)
          have f3 := fsd_tr a3 b2
          obtain ⟨m', c1, c2, c3⟩ := ih (t + 1) f _ _ _ (by omega) (by omega) (c.fs hk f3) (s.to b1 f3) (hw_take I (by omega) q2 hg)
          simp only [q1, q3, and_self, if_true]
          refine ⟨m', ?_, c2, fdy_tr f3.y c3⟩
          rw [e_Day_finish_29 hk]
          simp (disch := omega) only [w_ne, w_at, wl_ne, wl_at, wc_ne, wc_at, upd_at, upd_ne, upl_at, upl_ne, cpy_in0, zn_cl, zn_add, zn_mul, zn_sub, zn_pm, br_tt, br_ff, br_ltT, br_ltF, br_leT, br_leF, br_eqT, br_eqF, br_eqs, br_eqm, br_eqm', br_ltm, br_mlt, br_lem, br_mle, br_oiF, br_lgge, br_lgle, br_lggt, br_lglt, br_lgeq, br_zb, br_zb1, bV_s, bI_s, bL_s, zo_n, zo_s, c.n, c.hw, s.hs, q1, q2, e0, a1]
          exact c1
        · have hl0 : w.length = 0 := by omega
          obtain ⟨b1, b2⟩ := sd_set (o := none) s.dd (t := t) (by omega)
          have hset : sp_set h t none = h := by
            funext i; unfold sp_set; by_cases e : i = t
            · rw [if_pos e, e, q2]
            · rw [if_neg e]
          rw [hset] at b1
          obtain ⟨m', c1, c2, c3⟩ := ih (t + 1) f _ _ _ (by omega) (by omega) (c.fs hk b2) (s.to b1 b2) I
          simp only [q1, q3, and_false, if_false]
          have hgr : sp_gr T w = 0 := by unfold sp_gr; rw [hl0]; rfl
          rw [hgr] at e0
          refine ⟨m', ?_, c2, fdy_tr b2.y c3⟩
          rw [e_Day_finish_29 hk]
          simp (disch := omega) only [w_ne, w_at, wl_ne, wl_at, wc_ne, wc_at, upd_at, upd_ne, upl_at, upl_ne, cpy_in0, zn_cl, zn_add, zn_mul, zn_sub, zn_pm, br_tt, br_ff, br_ltT, br_ltF, br_leT, br_leF, br_eqT, br_eqF, br_eqs, br_eqm, br_eqm', br_ltm, br_mlt, br_lem, br_mle, br_oiF, br_lgge, br_lgle, br_lggt, br_lglt, br_lgeq, br_zb, br_zb1, bV_s, bI_s, bL_s, zo_n, zo_s, c.n, c.hw, s.hs, q1, q2, e0]
          rw [n_Scene_takeFromWall hk]
          simp (disch := omega) only [w_ne, w_at, wl_ne, wl_at, wc_ne, wc_at, upd_at, upd_ne, upl_at, upl_ne, cpy_in0, zn_cl, zn_add, zn_mul, zn_sub, zn_pm, br_tt, br_ff, br_ltT, br_ltF, br_leT, br_leF, br_eqT, br_eqF, br_eqs, br_eqm, br_eqm', br_ltm, br_mlt, br_lem, br_mle, br_oiF, br_lgge, br_lgle, br_lggt, br_lglt, br_lgeq, br_zb, br_zb1, bV_s, bI_s, bL_s, zo_n, zo_s, s.wl, hl0]
          exact c1
    · obtain ⟨m', b1, b2, b3⟩ := ih (t + 1) f h w m (by omega) (by omega) c s I
      simp only [q1, false_and, if_false]
      refine ⟨m', ?_, b2, b3⟩
      rw [e_Day_finish_29 hk]
      simp (disch := omega) only [w_ne, w_at, wl_ne, wl_at, wc_ne, wc_at, upd_at, upd_ne, upl_at, upl_ne, cpy_in0, zn_cl, zn_add, zn_mul, zn_sub, zn_pm, br_tt, br_ff, br_ltT, br_ltF, br_leT, br_leF, br_eqT, br_eqF, br_eqs, br_eqm, br_eqm', br_ltm, br_mlt, br_lem, br_mle, br_oiF, br_lgge, br_lgle, br_lggt, br_lglt, br_lgeq, br_zb, br_zb1, bV_s, bI_s, bL_s, zo_n, zo_s, c.n, c.hw, b1]
theorem lp_lamps {k : Nat} (hk : sc_k k) {T V : Td} {E : Ev} (W : tw T V) {ord : List Nat} {U : Nat → Nat} {mt : List (Nat × Nat)} {day d : Nat} (S : sw T ord U mt day) (r : Nat) :
    ∀ (i f : Nat) (q : Hs × List Nat) (m : am_M), i + r = ord.length → r + 10 < f → cx T V E m → sn k T ord U mt q.1 q.2 day m → hwI (T 0 0) q.1 q.2 → (∀ l t, l < T 0 1 → t < T 0 0 → m.2 51 (l * 5 + t) = sp_near T V E U day l t) →
    ∃ m', r_Day_finish_2 k (d + 3) f (zn i) m = some (none, m') ∧ sn k T ord U mt (sp_fin T V E U day (ord.drop i) mt q).1 (sp_fin T V E U day (ord.drop i) mt q).2 (day + 1) m' ∧ fdy k m m' := by
  induction r with
  | zero =>
    intro i f q m h1 h2 c s I hg
    have := S.ol; have := W.n
    obtain ⟨f, rfl⟩ : ∃ g, f = g + 1 := ⟨f - 1, by omega⟩
    obtain ⟨m', b1, b2, b3⟩ := lp_thv hk W (d := d) S (T 0 0) 0 f q.1 q.2 m (by omega) (by omega) c s I
    refine ⟨m', ?_, ?_, b3⟩
    · rw [e_Day_finish_2 hk]
      simp (disch := omega) only [w_ne, w_at, wl_ne, wl_at, wc_ne, wc_at, upd_at, upd_ne, upl_at, upl_ne, cpy_in0, zn_cl, zn_add, zn_mul, zn_sub, zn_pm, br_tt, br_ff, br_ltT, br_ltF, br_leT, br_leF, br_eqT, br_eqF, br_eqs, br_eqm, br_eqm', br_ltm, br_mlt, br_lem, br_mle, br_oiF, br_lgge, br_lgle, br_lggt, br_lglt, br_lgeq, br_zb, br_zb1, bV_s, bI_s, bL_s, zo_n, zo_s, s.ol, b1]
    · rw [List.drop_eq_nil_of_le (by omega)]; exact b2
  | succ r ih =>
    intro i f q m h1 h2 c s I hg
    have := S.ol; have := W.n; have := W.L
    obtain ⟨f, rfl⟩ : ∃ g, f = g + 1 := ⟨f - 1, by omega⟩
    have hl := S.os _ (getD_mem ord i 0 (by omega))
    obtain ⟨m1, a1, a2, a3⟩ := s_light hk W (d := d) S.hu hl c s I (hg _ · hl)
    obtain ⟨m', b1, b2, b3⟩ := ih (i + 1) f (sp_light T V U (sp_near T V E U day (ord.getD i 0)) (ord.getD i 0) (T 0 0) q.1 q.2) m1 (by omega) (by omega) (c.fs hk a3) a2 (light_hw _ _ _ I) (by rw [a3.1]; exact hg)
    refine ⟨m', ?_, ?_, fdy_tr a3.y b3⟩
    · rw [e_Day_finish_2 hk]
      simp (disch := omega) only [w_ne, w_at, wl_ne, wl_at, wc_ne, wc_at, upd_at, upd_ne, upl_at, upl_ne, cpy_in0, zn_cl, zn_add, zn_mul, zn_sub, zn_pm, br_tt, br_ff, br_ltT, br_ltF, br_leT, br_leF, br_eqT, br_eqF, br_eqs, br_eqm, br_eqm', br_ltm, br_mlt, br_lem, br_mle, br_oiF, br_lgge, br_lgle, br_lggt, br_lglt, br_lgeq, br_zb, br_zb1, bV_s, bI_s, bL_s, zo_n, zo_s, s.ol, s.os, a1, b1]
    · rw [drop_getD ord i 0 (by omega)]; exact b2
theorem s_finish {k : Nat} (hk : sc_k k) {T V : Td} {E : Ev} (W : tw T V) {ord : List Nat} {U : Nat → Nat} {mt : List (Nat × Nat)} {day d : Nat} {h : Hs} {w : List Nat} {m : am_M} (S : sw T ord U mt day) (c : cx T V E m) (s : sn k T ord U mt h w day m) (I : hwI (T 0 0) h w) (hg : ∀ l t, l < T 0 1 → t < T 0 0 → m.2 51 (l * 5 + t) = sp_near T V E U day l t) :
    ∃ m', am_c (d + 4) y_Day_finish [.ref 26, .ref k] m = some (none, m') ∧ sn k T ord U mt (sp_fin T V E U day ord mt (h, w)).1 (sp_fin T V E U day ord mt (h, w)).2 (day + 1) m' ∧ fdy k m m' := by
  have := S.ol
  rw [n_Day_finish hk]
  exact lp_lamps hk W S ord.length 0 29999 (h, w) m (by omega) (by omega) c s I hg
theorem s_pass {k : Nat} (hk : sc_k k) {T V : Td} {E : Ev} (W : tw T V) (hE : evW E) {ord : List Nat} {U : Nat → Nat} {mt : List (Nat × Nat)} {day d : Nat} {h : Hs} {w : List Nat} {m : am_M} (S : sw T ord U mt day) (c : cx T V E m) (s : sn k T ord U mt h w day m) (I : hwI (T 0 0) h w) :
    ∃ m', am_c (d + 5) y_Day_pass [.ref 26, .ref k] m = some (none, m') ∧ sn k T ord U mt (sp_pass T V E U day ord mt h w).1 (sp_pass T V E U day ord mt h w).2 (day + 1) m' ∧ fdy k m m' := by
  have := I.2
  obtain ⟨m1, a1, a2, a3⟩ := s_gather hk W hE (d := d) c s I
  have c1 := c.fy hk a3
  obtain ⟨m2, b1, b2, b3, b4, b5⟩ := s_measure hk W hE (d := d) (a := 0) c1 a2 (gat_hw I) S.hu (by omega) (Nat.le_refl _)
  obtain ⟨m', d1, d2, d3⟩ := s_finish hk W (d := d) S (c1.same b2) (a2.same b2) (gat_hw I) (by
    intro l t hl ht
    rw [b4 l t (by omega) hl ht]
    exact nv_near (gath_all _ _ _ (by omega) t ht))
  refine ⟨m', ?_, d2, fdy_tr (fdy_tr a3 ⟨fun c c1 c2 _ c4 => b3 c c1 c2 c4, fun c _ _ _ => by rw [b2], fun i _ _ => by rw [b2]⟩) d3⟩
  rw [n_Day_pass hk]
  simp (disch := omega) only [w_ne, w_at, wl_ne, wl_at, wc_ne, wc_at, upd_at, upd_ne, upl_at, upl_ne, cpy_in0, zn_cl, zn_add, zn_mul, zn_sub, zn_pm, br_tt, br_ff, br_ltT, br_ltF, br_leT, br_leF, br_eqT, br_eqF, br_eqs, br_eqm, br_eqm', br_ltm, br_mlt, br_lem, br_mle, br_oiF, br_lgge, br_lgle, br_lggt, br_lglt, br_lgeq, br_zb, br_zb1, bV_s, bI_s, bL_s, zo_n, zo_s, a1, c1.L, b1, d1]
theorem s_passFog {k : Nat} (hk : sc_k k) {T V : Td} {E : Ev} (W : tw T V) (hE : evW E) {ord : List Nat} {U : Nat → Nat} {mt : List (Nat × Nat)} {day d : Nat} {h : Hs} {w : List Nat} {m : am_M} (S : sw T ord U mt day) (c : cx T V E m) (s : sn k T ord U mt h w day m) (I : hwI (T 0 0) h w) :
    ∃ m', am_c (d + 5) y_Day_passInFog [.ref 26, .ref k] m = some (none, m') ∧ sn k T ord U mt (sp_fog T V E day mt h w).1 (sp_fog T V E day mt h w).2 (day + 1) m' ∧ fdy k m m' := by
  obtain ⟨m1, a1, a2, a3⟩ := s_gather hk W hE (d := d) c s I
  obtain ⟨m2, b1, b2, b3⟩ := s_noon hk W (d := d + 1) S a2 (gat_hw I)
  obtain ⟨d1, d2⟩ := b2.next
  refine ⟨_, ?_, d1, fdy_tr (fdy_tr a3 b3.y) d2⟩
  rw [n_Day_passInFog hk]
  simp (disch := omega) only [w_ne, w_at, wl_ne, wl_at, wc_ne, wc_at, upd_at, upd_ne, upl_at, upl_ne, cpy_in0, zn_cl, zn_add, zn_mul, zn_sub, zn_pm, br_tt, br_ff, br_ltT, br_ltF, br_leT, br_leF, br_eqT, br_eqF, br_eqs, br_eqm, br_eqm', br_ltm, br_mlt, br_lem, br_mle, br_oiF, br_lgge, br_lgle, br_lggt, br_lglt, br_lgeq, br_zb, br_zb1, bV_s, bI_s, bL_s, zo_n, zo_s, a1, b1, b2.dy]
