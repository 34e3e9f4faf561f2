/-! laws: the tables, both sides -/
/-- knots told, laws from where to where -/
def gC (G : Td) (F : Td) (m : am_M) : Prop :=
  (∀ j, j < F 2 0 → m.1 40 j = zn (kcl (G 0 j) (G 1 j)) ∧ (G 0 j = 0 → m.1 41 j = zn (G 1 j)))
  ∧ (∀ l, l < 3 → m.1 42 l = zn (F 0 l))
  ∧ (∀ l, l < 3 → m.1 43 l = zn (F 1 l))
  ∧ (m.1 39 2 = zn (F 2 0))
theorem gC.kd {G : Td} {F : Td} {m : am_M} (hZ : gC G F m) : ∀ j, j < F 2 0 → m.1 40 j = zn (kcl (G 0 j) (G 1 j)) ∧ (G 0 j = 0 → m.1 41 j = zn (G 1 j)) := hZ.1
theorem gC.fr {G : Td} {F : Td} {m : am_M} (hZ : gC G F m) : ∀ l, l < 3 → m.1 42 l = zn (F 0 l) := hZ.2.1
theorem gC.to {G : Td} {F : Td} {m : am_M} (hZ : gC G F m) : ∀ l, l < 3 → m.1 43 l = zn (F 1 l) := hZ.2.2.1
theorem gC.kn {G : Td} {F : Td} {m : am_M} (hZ : gC G F m) : m.1 39 2 = zn (F 2 0) := hZ.2.2.2
def gR (G : Td) (F : Td) (m : am_M) : Prop :=
  (∀ j, j < F 2 0 → m.1 125 j = zn (G 0 j))
  ∧ (∀ j, j < F 2 0 → m.1 126 j = zn (G 1 j))
  ∧ (∀ j, j < F 2 0 → 3 ≤ G 0 j → m.1 127 j = zn (G 2 j))
  ∧ (∀ l, l < 3 → m.1 122 l = zb (decide (F 0 l < F 1 l)))
  ∧ (∀ l, l < 3 → F 0 l < F 1 l → m.1 123 l = zn (F 0 l) ∧ m.1 124 l = zn (F 1 l))
theorem gR.k0 {G : Td} {F : Td} {m : am_M} (hZ : gR G F m) : ∀ j, j < F 2 0 → m.1 125 j = zn (G 0 j) := hZ.1
theorem gR.k1 {G : Td} {F : Td} {m : am_M} (hZ : gR G F m) : ∀ j, j < F 2 0 → m.1 126 j = zn (G 1 j) := hZ.2.1
theorem gR.k2 {G : Td} {F : Td} {m : am_M} (hZ : gR G F m) : ∀ j, j < F 2 0 → 3 ≤ G 0 j → m.1 127 j = zn (G 2 j) := hZ.2.2.1
theorem gR.tl {G : Td} {F : Td} {m : am_M} (hZ : gR G F m) : ∀ l, l < 3 → m.1 122 l = zb (decide (F 0 l < F 1 l)) := hZ.2.2.2.1
theorem gR.fr {G : Td} {F : Td} {m : am_M} (hZ : gR G F m) : ∀ l, l < 3 → F 0 l < F 1 l → m.1 123 l = zn (F 0 l) ∧ m.1 124 l = zn (F 1 l) := hZ.2.2.2.2
def gW (G : Td) (F : Td) : Prop :=
  (F 2 0 ≤ 64)
  ∧ (∀ l, l < 3 → F 1 l ≤ F 2 0 ∧ F 0 l ≤ 64)
  ∧ (∀ l, l < 3 → F 0 l < F 1 l → wfs G (F 1 l - F 0 l) (F 0 l) [])
theorem gW.n {G : Td} {F : Td} (hZ : gW G F) : F 2 0 ≤ 64 := hZ.1
theorem gW.to {G : Td} {F : Td} (hZ : gW G F) : ∀ l, l < 3 → F 1 l ≤ F 2 0 ∧ F 0 l ≤ 64 := hZ.2.1
theorem gW.wf {G : Td} {F : Td} (hZ : gW G F) : ∀ l, l < 3 → F 0 l < F 1 l → wfs G (F 1 l - F 0 l) (F 0 l) [] := hZ.2.2
/-- what a law is worth -/
def gE (G F : Td) : Ev := fun l nm => if F 0 l < F 1 l then (evl G nm (F 1 l - F 0 l) (F 0 l) (fun _ => 0)).map (fun v => v (F 1 l - 1)) else none
theorem nvl_ext {G : Td} {nm nm' v v' : Nat → Int64} {j : Nat} (h1 : G 0 j = 1 → nm (G 1 j) = nm' (G 1 j)) (h2 : 2 ≤ G 0 j → v (G 1 j) = v' (G 1 j)) (h3 : 3 ≤ G 0 j → v (G 2 j) = v' (G 2 j)) : nvl G nm v j = nvl G nm' v' j := by
  unfold nvl
  by_cases q0 : G 0 j = 0
  · rw [if_pos q0, if_pos q0]
  rw [if_neg q0, if_neg q0]
  by_cases q1 : G 0 j = 1
  · rw [if_pos q1, if_pos q1, h1 q1]
  rw [if_neg q1, if_neg q1]
  rw [h2 (by omega)]
  by_cases q2 : G 0 j = 2
  · rw [if_pos q2, if_pos q2]
  rw [if_neg q2, if_neg q2, h3 (by omega)]
/-- a stack's step -/
theorem wfs_cases {G : Td} {r j : Nat} {s : List Nat} (h : wfs G (r + 1) j s) : ∃ s', wfs G r (j + 1) (j :: s') ∧ G 0 j ≤ 14 ∧ (G 0 j = 1 → G 1 j < 7) ∧ (2 ≤ G 0 j → G 1 j ∈ s) ∧ (3 ≤ G 0 j → G 2 j ∈ s) ∧ (∀ y, y ∈ s' → y ∈ s) := by
  rw [wfs] at h
  rcases h with ⟨g1, g2, g3⟩ | ⟨g1, g2, g3⟩ | ⟨g1, s', g2, g3⟩ | ⟨g1, g2, s', g3, g4⟩
  · exact ⟨s, g3, by omega, by omega, by omega, by omega, fun y hy => hy⟩
  · exact ⟨s, g3, by omega, fun _ => g2, by omega, by omega, fun y hy => hy⟩
  · subst g2; exact ⟨s', g3, by omega, by omega, fun _ => List.mem_cons_self .., by omega, fun y hy => List.mem_cons_of_mem _ hy⟩
  · subst g3; exact ⟨s', g4, by omega, by omega, fun _ => List.mem_cons_of_mem _ (List.mem_cons_self ..), fun _ => List.mem_cons_self .., fun y hy => List.mem_cons_of_mem _ (List.mem_cons_of_mem _ hy)⟩
theorem evl_ext {G : Td} {nm nm' : Nat → Int64} (hn : ∀ i, i < 7 → nm i = nm' i) (r : Nat) : ∀ (j : Nat) (s : List Nat) (v : Nat → Int64), wfs G r j s → evl G nm r j v = evl G nm' r j v := by
  induction r with
  | zero => intro j s v _; rfl
  | succ r ih =>
    intro j s v h
    obtain ⟨s', h1, h2, h3, h4, h5, h6⟩ := wfs_cases h
    have e := nvl_ext (G := G) (nm := nm) (nm' := nm') (v := v) (v' := v) (j := j) (fun q => hn _ (h3 q)) (fun _ => rfl) (fun _ => rfl)
    rcases opt_c (nvl G nm v j) with q | ⟨x, q⟩
    · rw [evl_n q, evl_n (by rw [← e]; exact q)]
    · rw [evl_s q, evl_s (by rw [← e]; exact q)]; exact ih _ _ _ h1
theorem nvl_bd {G : Td} {nm v : Nat → Int64} {j : Nat} {x : Int64} (hn : nmB nm) (h1 : G 0 j = 1 → G 1 j < 7) (h2 : 3 ≤ G 0 j → bd (v (G 1 j)) ∧ bd (v (G 2 j))) (h : nvl G nm v j = some x) : bd x := by
  unfold nvl at h
  by_cases q0 : G 0 j = 0
  · rw [if_pos q0] at h; injection h with h; subst h; exact bd32 _
  rw [if_neg q0] at h
  by_cases q1 : G 0 j = 1
  · rw [if_pos q1] at h; injection h with h; subst h; exact hn _ (h1 q1)
  rw [if_neg q1] at h
  by_cases q2 : G 0 j = 2
  · rw [if_pos q2] at h; injection h with h; subst h; exact bd01 (by split <;> simp)
  rw [if_neg q2] at h
  exact jn_bd (h2 (by omega)).1 (h2 (by omega)).2 h
theorem evl_bd {G : Td} {nm : Nat → Int64} (hn : nmB nm) (r : Nat) : ∀ (j : Nat) (s : List Nat) (v v' : Nat → Int64), wfs G r j s → (∀ y, y ∈ s → y < j ∧ bd (v y)) → (r = 0 → bd (v (j - 1))) → evl G nm r j v = some v' → bd (v' (j + r - 1)) := by
  induction r with
  | zero =>
    intro j s v v' _ _ h0 h
    rw [evl] at h; injection h with h; subst h; exact h0 rfl
  | succ r ih =>
    intro j s v v' hw hs _ h
    obtain ⟨s', h1, h2, h3, h4, h5, h6⟩ := wfs_cases hw
    rcases opt_c (nvl G nm v j) with q | ⟨x, q⟩
    · rw [evl_n q] at h; cases h
    · rw [evl_s q] at h
      have hx := nvl_bd hn h3 (fun g => ⟨(hs _ (h4 (by omega))).2, (hs _ (h5 g)).2⟩) q
      have := ih (j + 1) (j :: s') (vp_updL v j x) v' h1 (by
        intro y hy
        rcases List.mem_cons.mp hy with e | e
        · subst e; rw [upl_at]; exact ⟨by omega, hx⟩
        · obtain ⟨e1, e2⟩ := hs y (h6 y e)
          rw [upl_ne (by omega)]; exact ⟨by omega, e2⟩) (fun _ => by rw [Nat.add_sub_cancel, upl_at]; exact hx) h
      rw [show j + (r + 1) - 1 = j + 1 + r - 1 from by omega]; exact this
theorem gE_evW {G F : Td} (W : gW G F) (hF : ∀ l, 3 ≤ l → F 1 l ≤ F 0 l) : evW (gE G F) := by
  constructor
  · intro l nm nm' h
    unfold gE
    by_cases e : F 0 l < F 1 l
    · have hl : l < 3 := by
        rcases Nat.lt_or_ge l 3 with q | q
        · exact q
        · have := hF l q; omega
      rw [if_pos e, if_pos e, evl_ext h _ _ _ _ (W.wf l hl e)]
    · rw [if_neg e, if_neg e]
  · intro l nm v hn h
    unfold gE at h
    by_cases e : F 0 l < F 1 l
    · have hl : l < 3 := by
        rcases Nat.lt_or_ge l 3 with q | q
        · exact q
        · have := hF l q; omega
      rw [if_pos e] at h
      rcases opt_c (evl G nm (F 1 l - F 0 l) (F 0 l) (fun _ => 0)) with q | ⟨v', q⟩
      · rw [q] at h; cases h
      · have hb := evl_bd hn _ _ _ _ _ (W.wf l hl e) (by intro y hy; cases hy) (by omega) q
        rw [q] at h
        simp only [Option.map_some, Option.some.injEq] at h
        rw [show F 0 l + (F 1 l - F 0 l) - 1 = F 1 l - 1 from by omega, h] at hb
        intro e2; rw [e2] at hb; exact bd_lmin hb
    · rw [if_neg e] at h; cases h
theorem gC_lw {G F : Td} {m : am_M} (W : gW G F) (c : gC G F m) : lwC (gE G F) m := by
  refine ⟨fun l => decide (F 0 l < F 1 l), ?_, ?_, ?_⟩
  · intro l hl d m' e
    have h1 := W.to l hl; have := W.n
    have e1 : m'.1 42 l = zn (F 0 l) := by rw [e 42 (by omega) (by omega)]; exact c.fr l hl
    have e2 : m'.1 43 l = zn (F 1 l) := by rw [e 43 (by omega) (by omega)]; exact c.to l hl
    rw [n_Laws_isTold_39]
    by_cases q : F 0 l < F 1 l
    · simp (disch := omega) only [w_ne, w_at, wl_ne, wl_at, wc_ne, wc_at, upd_at, upd_ne, upl_at, upl_ne, cpy_in0, zn_cl, zn_add, zn_mul, zn_sub, zn_pm, br_tt, br_ff, br_ltT, br_ltF, br_leT, br_leF, br_eqT, br_eqF, br_eqs, br_eqm, br_eqm', br_ltm, br_mlt, br_lem, br_mle, br_oiF, br_lgge, br_lgle, br_lggt, br_lglt, br_lgeq, br_zb, br_zb1, bV_s, bI_s, bL_s, zo_n, zo_s, e1, e2, q, decide_true, zb_t]
    · simp (disch := omega) only [w_ne, w_at, wl_ne, wl_at, wc_ne, wc_at, upd_at, upd_ne, upl_at, upl_ne, cpy_in0, zn_cl, zn_add, zn_mul, zn_sub, zn_pm, br_tt, br_ff, br_ltT, br_ltF, br_leT, br_leF, br_eqT, br_eqF, br_eqs, br_eqm, br_eqm', br_ltm, br_mlt, br_lem, br_mle, br_oiF, br_lgge, br_lgle, br_lggt, br_lglt, br_lgeq, br_zb, br_zb1, bV_s, bI_s, bL_s, zo_n, zo_s, e1, e2, q, decide_false, zb_f]
  · intro l hl e nm
    unfold gE; rw [if_neg (by simpa using e)]
  · intro l hl e d m' e1 hn
    have e : F 0 l < F 1 l := by simpa using e
    have h1 := W.to l hl; have := W.n
    have q1 : m'.1 42 l = zn (F 0 l) := by rw [e1 42 (by omega) (by omega)]; exact c.fr l hl
    obtain ⟨m2, b1, b2, b3⟩ := lp_work (d := d) (G := G) (nm := m'.2 44) hl (by omega : F 1 l ≤ 64) hn (F 1 l - F 0 l) (F 0 l) 29999 [] (fun _ => 0) none none m' (by omega) (by omega) (by
      rw [e1 40 (by omega) (by omega), e1 41 (by omega) (by omega)]
      exact fun j hj => c.kd j (by omega)) (by rw [e1 43 (by omega) (by omega)]; exact c.to l hl) rfl (W.wf l hl e) (by simp) (by intro y hy; cases hy) (by intro i hi; exact absurd hi (by simp))
    refine ⟨m2, ?_, b2, b3⟩
    rw [n_Laws_work]
    simp (disch := omega) only [w_ne, w_at, wl_ne, wl_at, wc_ne, wc_at, upd_at, upd_ne, upl_at, upl_ne, cpy_in0, zn_cl, zn_add, zn_mul, zn_sub, zn_pm, br_tt, br_ff, br_ltT, br_ltF, br_leT, br_leF, br_eqT, br_eqF, br_eqs, br_eqm, br_eqm', br_ltm, br_mlt, br_lem, br_mle, br_oiF, br_lgge, br_lgle, br_lggt, br_lglt, br_lgeq, br_zb, br_zb1, bV_s, bI_s, bL_s, zo_n, zo_s, q1]
    rw [List.length_nil] at b1
    rw [b1]; unfold gE; rw [if_pos e]
theorem lq_law {d l hi : Nat} {G : Td} {nm : Nat → Int64} (hl : l < 3) (h64 : hi ≤ 64) (h0 : 0 < hi) (hnm : nmB nm) (r : Nat) :
    ∀ (j f : Nat) (s : List Nat) (o : Option (Nat → Int64)) (m : am_M), j + r = hi → r < f → (∀ j, j < hi → m.1 125 j = zn (G 0 j) ∧ m.1 126 j = zn (G 1 j) ∧ (3 ≤ G 0 j → m.1 127 j = zn (G 2 j))) → m.1 124 l = zn hi → m.2 130 = nm → wfs G r j s → (∀ y, y ∈ s → y < j) →
    ((o = none ∧ m.1 107 48 = zn 1) ∨ (m.1 107 48 = zn 0 ∧ ∃ v, o = some v ∧ (∀ y, y ∈ s → bd (v y) ∧ m.2 131 y = v y) ∧ (r = 0 → m.2 131 (j - 1) = v (j - 1)))) →
    ∃ y m', r_M_lawOf_12 (d + 2) f (zn l) (zn j) m = some (some (.long y), m') ∧ (((o.bind (evl G nm r j)).map (fun v => v (hi - 1)) = none ∧ m'.1 107 48 = zn 1) ∨ ((o.bind (evl G nm r j)).map (fun v => v (hi - 1)) = some y ∧ m'.1 107 48 = zn 0)) ∧ (∀ c, c ≠ 107 → m'.1 c = m.1 c) ∧ (∀ i, i ≠ 48 → m'.1 107 i = m.1 107 i) ∧ ∀ c, c ≠ 131 → m'.2 c = m.2 c := by
  induction r with
  | zero =>
    intro j f s o m h1 h2 hk hto hn hw hs ho
    obtain ⟨f, rfl⟩ : ∃ g, f = g + 1 := ⟨f - 1, by omega⟩
    rw [e_M_lawOf_12]
    rcases ho with ⟨o1, o2⟩ | ⟨o1, v, o2, o3, o4⟩
    · refine ⟨0, m, ?_, Or.inl ⟨by rw [o1]; rfl, o2⟩, fun _ _ => rfl, fun _ _ => rfl, fun _ _ => rfl⟩
      simp (disch := omega) only [w_ne, w_at, wl_ne, wl_at, wc_ne, wc_at, upd_at, upd_ne, upl_at, upl_ne, cpy_in0, zn_cl, zn_add, zn_mul, zn_sub, zn_pm, br_tt, br_ff, br_ltT, br_ltF, br_leT, br_leF, br_eqT, br_eqF, br_eqs, br_eqm, br_eqm', br_ltm, br_mlt, br_lem, br_mle, br_oiF, br_lgge, br_lgle, br_lggt, br_lglt, br_lgeq, br_zb, br_zb1, bV_s, bI_s, bL_s, zo_n, zo_s, hto, o2]
    · refine ⟨v (hi - 1), m, ?_, Or.inr ⟨by rw [o2]; rfl, o1⟩, fun _ _ => rfl, fun _ _ => rfl, fun _ _ => rfl⟩
      simp (disch := omega) only [w_ne, w_at, wl_ne, wl_at, wc_ne, wc_at, upd_at, upd_ne, upl_at, upl_ne, cpy_in0, zn_cl, zn_add, zn_mul, zn_sub, zn_pm, br_tt, br_ff, br_ltT, br_ltF, br_leT, br_leF, br_eqT, br_eqF, br_eqs, br_eqm, br_eqm', br_ltm, br_mlt, br_lem, br_mle, br_oiF, br_lgge, br_lgle, br_lggt, br_lglt, br_lgeq, br_zb, br_zb1, bV_s, bI_s, bL_s, zo_n, zo_s, hto, o1]
      rw [show hi - 1 = j - 1 from by omega, o4 rfl]
  | succ r ih =>
    intro j f s o m h1 h2 hk hto hn hw hs ho
    obtain ⟨f, rfl⟩ : ∃ g, f = g + 1 := ⟨f - 1, by omega⟩
    obtain ⟨k0, k1, k2⟩ := hk j (by omega)
    obtain ⟨s', w1, w2, w3, w4, w5, w6⟩ := wfs_cases hw
    have hv : vr (nvl G (m.2 130) (m.2 131) j) m (am_c (d + 2) y_M_valueOf [.ref 107, .int (zn j)] m) := s_valueOf (by omega) k0 k1 k2 w2 w3 (fun q => by have := hs _ (w4 q); omega) (fun q => by have := hs _ (w5 q); omega) (by
      rcases ho with ⟨o1, o2⟩ | ⟨o1, v, o2, o3, o4⟩
      · exact Or.inl o2
      · refine Or.inr ⟨o1, fun q => ?_⟩
        obtain ⟨a1, a2⟩ := o3 _ (w4 (by omega))
        obtain ⟨a3, a4⟩ := o3 _ (w5 q)
        rw [a2, a4]; exact ⟨a1, a3⟩)
    obtain ⟨y, m1, a1, a2, a3, a4, a5⟩ := hv
    have hs' : ∀ y, y ∈ j :: s' → y < j + 1 := by
      intro y hy
      rcases List.mem_cons.mp hy with e | e
      · omega
      · have := hs y (w6 y e); omega
    have mk : ∀ o', o'.bind (evl G nm r (j + 1)) = o.bind (evl G nm (r + 1) j) → ((o' = none ∧ m1.1 107 48 = zn 1) ∨ (m1.1 107 48 = zn 0 ∧ ∃ v, o' = some v ∧ (∀ z, z ∈ j :: s' → bd (v z) ∧ (m1.1, am_wl m1.2 131 j y).2 131 z = v z) ∧ (r = 0 → (m1.1, am_wl m1.2 131 j y).2 131 (j + 1 - 1) = v (j + 1 - 1)))) → ∃ y m', r_M_lawOf_12 (d + 2) (f + 1) (zn l) (zn j) m = some (some (.long y), m') ∧ (((o.bind (evl G nm (r + 1) j)).map (fun v => v (hi - 1)) = none ∧ m'.1 107 48 = zn 1) ∨ ((o.bind (evl G nm (r + 1) j)).map (fun v => v (hi - 1)) = some y ∧ m'.1 107 48 = zn 0)) ∧ (∀ c, c ≠ 107 → m'.1 c = m.1 c) ∧ (∀ i, i ≠ 48 → m'.1 107 i = m.1 107 i) ∧ ∀ c, c ≠ 131 → m'.2 c = m.2 c := by
      intro o' q1 q2
      obtain ⟨y', m', b1, b2, b3, b4, b5⟩ := ih (j + 1) f (j :: s') o' (m1.1, am_wl m1.2 131 j y) (by omega) (by omega) (by
        show ∀ j, j < hi → m1.1 125 j = _ ∧ m1.1 126 j = _ ∧ (_ → m1.1 127 j = _)
        rw [a3 125 (by omega), a3 126 (by omega), a3 127 (by omega)]; exact hk) (by show m1.1 124 l = _; rw [a3 124 (by omega)]; exact hto) (by simp (disch := omega) only [w_ne, w_at, wl_ne, wl_at, wc_ne, wc_at, upd_at, upd_ne, upl_at, upl_ne, cpy_in0, zn_cl, zn_add, zn_mul, zn_sub, zn_pm, br_tt, br_ff, br_ltT, br_ltF, br_leT, br_leF, br_eqT, br_eqF, br_eqs, br_eqm, br_eqm', br_ltm, br_mlt, br_lem, br_mle, br_oiF, br_lgge, br_lgle, br_lggt, br_lglt, br_lgeq, br_zb, br_zb1, bV_s, bI_s, bL_s, zo_n, zo_s, a2]; exact hn) w1 hs' q2
      refine ⟨y', m', ?_, by rw [← q1]; exact b2, fun c e => (b3 c e).trans (a3 c e), fun i e => (b4 i e).trans (a4 i e), fun c e => ?_⟩
      · rw [e_M_lawOf_12]
        simp (disch := omega) only [w_ne, w_at, wl_ne, wl_at, wc_ne, wc_at, upd_at, upd_ne, upl_at, upl_ne, cpy_in0, zn_cl, zn_add, zn_mul, zn_sub, zn_pm, br_tt, br_ff, br_ltT, br_ltF, br_leT, br_leF, br_eqT, br_eqF, br_eqs, br_eqm, br_eqm', br_ltm, br_mlt, br_lem, br_mle, br_oiF, br_lgge, br_lgle, br_lggt, br_lglt, br_lgeq, br_zb, br_zb1, bV_s, bI_s, bL_s, zo_n, zo_s, hto, a1]
        exact b1
      · rw [b5 c e]; simp (disch := omega) only [w_ne, w_at, wl_ne, wl_at, wc_ne, wc_at, upd_at, upd_ne, upl_at, upl_ne, cpy_in0, zn_cl, zn_add, zn_mul, zn_sub, zn_pm, br_tt, br_ff, br_ltT, br_ltF, br_leT, br_leF, br_eqT, br_eqF, br_eqs, br_eqm, br_eqm', br_ltm, br_mlt, br_lem, br_mle, br_oiF, br_lgge, br_lgle, br_lggt, br_lglt, br_lgeq, br_zb, br_zb1, bV_s, bI_s, bL_s, zo_n, zo_s, a2]
    rcases ho with ⟨o1, o2⟩ | ⟨o1, v, o2, o3, o4⟩
    · refine mk none (by rw [o1]; rfl) (Or.inl ⟨rfl, ?_⟩)
      rcases a5 with ⟨c1, _⟩ | ⟨c1, _⟩
      · rw [o2] at c1; exact absurd c1 (by rw [zn_inj (by omega) (by omega)]; omega)
      · exact c1
    · have e := nvl_ext (G := G) (nm := m.2 130) (nm' := nm) (v := m.2 131) (v' := v) (j := j) (fun q => by rw [hn]) (fun q => (o3 _ (w4 q)).2) (fun q => (o3 _ (w5 q)).2)
      rw [e] at a5
      rcases a5 with ⟨c1, c2, c3⟩ | ⟨c1, c2⟩
      · refine mk (some (vp_updL v j y)) (by rw [o2]; exact (evl_s c2).symm) (Or.inr ⟨c3, _, rfl, ?_, ?_⟩)
        · intro z hz
          rcases List.mem_cons.mp hz with q | q
          · subst q
            rw [upl_at]
            refine ⟨nvl_bd hnm w3 (fun g => ⟨(o3 _ (w4 (by omega))).1, (o3 _ (w5 g)).1⟩) c2, ?_⟩
            simp (disch := omega) only [w_ne, w_at, wl_ne, wl_at, wc_ne, wc_at, upd_at, upd_ne, upl_at, upl_ne, cpy_in0, zn_cl, zn_add, zn_mul, zn_sub, zn_pm, br_tt, br_ff, br_ltT, br_ltF, br_leT, br_leF, br_eqT, br_eqF, br_eqs, br_eqm, br_eqm', br_ltm, br_mlt, br_lem, br_mle, br_oiF, br_lgge, br_lgle, br_lggt, br_lglt, br_lgeq, br_zb, br_zb1, bV_s, bI_s, bL_s, zo_n, zo_s]
          · have := hs z (w6 z q)
            obtain ⟨a6, a7⟩ := o3 z (w6 z q)
            rw [upl_ne (by omega)]
            refine ⟨a6, ?_⟩
            simp (disch := omega) only [w_ne, w_at, wl_ne, wl_at, wc_ne, wc_at, upd_at, upd_ne, upl_at, upl_ne, cpy_in0, zn_cl, zn_add, zn_mul, zn_sub, zn_pm, br_tt, br_ff, br_ltT, br_ltF, br_leT, br_leF, br_eqT, br_eqF, br_eqs, br_eqm, br_eqm', br_ltm, br_mlt, br_lem, br_mle, br_oiF, br_lgge, br_lgle, br_lggt, br_lglt, br_lgeq, br_zb, br_zb1, bV_s, bI_s, bL_s, zo_n, zo_s, a2, a7]
        · intro _
          rw [Nat.add_sub_cancel, upl_at]; simp (disch := omega) only [w_ne, w_at, wl_ne, wl_at, wc_ne, wc_at, upd_at, upd_ne, upl_at, upl_ne, cpy_in0, zn_cl, zn_add, zn_mul, zn_sub, zn_pm, br_tt, br_ff, br_ltT, br_ltF, br_leT, br_leF, br_eqT, br_eqF, br_eqs, br_eqm, br_eqm', br_ltm, br_mlt, br_lem, br_mle, br_oiF, br_lgge, br_lgle, br_lggt, br_lglt, br_lgeq, br_zb, br_zb1, bV_s, bI_s, bL_s, zo_n, zo_s]
      · refine mk none ?_ (Or.inl ⟨rfl, c1⟩)
        rcases c2 with c2 | c2
        · rw [o1] at c2; exact absurd c2 (by rw [zn_inj (by omega) (by omega)]; omega)
        · rw [o2]; exact (evl_n c2).symm
theorem gR_lw {G F : Td} {m : am_M} (W : gW G F) (c : gR G F m) : lwR (gE G F) m := by
  refine ⟨fun l => decide (F 0 l < F 1 l), c.tl, ?_, ?_⟩
  · intro l hl e nm
    unfold gE; rw [if_neg (by simpa using e)]
  · intro l hl e d m' e1 hn
    have e : F 0 l < F 1 l := by simpa using e
    have h1 := W.to l hl; have := W.n
    obtain ⟨f1, f2⟩ := c.fr l hl e
    have q1 : m'.1 123 l = zn (F 0 l) := by rw [e1 123 (by omega) (by omega)]; exact f1
    obtain ⟨y, m2, b1, b2, b3, b4, b5⟩ := lq_law (d := d) (G := G) (nm := m'.2 130) hl (by omega : F 1 l ≤ 64) (by omega) hn (F 1 l - F 0 l) (F 0 l) 29999 [] (some (fun _ => 0)) (am_w m'.1 107 48 (zn 0), m'.2) (by omega) (by omega) (by
      intro j hj
      simp (disch := omega) only [w_ne, w_at, wl_ne, wl_at, wc_ne, wc_at, upd_at, upd_ne, upl_at, upl_ne, cpy_in0, zn_cl, zn_add, zn_mul, zn_sub, zn_pm, br_tt, br_ff, br_ltT, br_ltF, br_leT, br_leF, br_eqT, br_eqF, br_eqs, br_eqm, br_eqm', br_ltm, br_mlt, br_lem, br_mle, br_oiF, br_lgge, br_lgle, br_lggt, br_lglt, br_lgeq, br_zb, br_zb1, bV_s, bI_s, bL_s, zo_n, zo_s]
      rw [e1 125 (by omega) (by omega), e1 126 (by omega) (by omega), e1 127 (by omega) (by omega)]
      exact ⟨c.k0 j (by omega), c.k1 j (by omega), c.k2 j (by omega)⟩) (by simp (disch := omega) only [w_ne, w_at, wl_ne, wl_at, wc_ne, wc_at, upd_at, upd_ne, upl_at, upl_ne, cpy_in0, zn_cl, zn_add, zn_mul, zn_sub, zn_pm, br_tt, br_ff, br_ltT, br_ltF, br_leT, br_leF, br_eqT, br_eqF, br_eqs, br_eqm, br_eqm', br_ltm, br_mlt, br_lem, br_mle, br_oiF, br_lgge, br_lgle, br_lggt, br_lglt, br_lgeq, br_zb, br_zb1, bV_s, bI_s, bL_s, zo_n, zo_s]; rw [e1 124 (by omega) (by omega)]; exact f2) rfl (W.wf l hl e) (by intro y hy; cases hy) (Or.inr ⟨by simp (disch := omega) only [w_ne, w_at, wl_ne, wl_at, wc_ne, wc_at, upd_at, upd_ne, upl_at, upl_ne, cpy_in0, zn_cl, zn_add, zn_mul, zn_sub, zn_pm, br_tt, br_ff, br_ltT, br_ltF, br_leT, br_leF, br_eqT, br_eqF, br_eqs, br_eqm, br_eqm', br_ltm, br_mlt, br_lem, br_mle, br_oiF, br_lgge, br_lgle, br_lggt, br_lglt, br_lgeq, br_zb, br_zb1, bV_s, bI_s, bL_s, zo_n, zo_s], fun _ => 0, rfl, (by intro y hy; cases hy), fun q => absurd q (by omega)⟩)
    refine ⟨m2, y, ?_, ?_, ?_, ?_, b5⟩
    · rw [n_M_lawOf]
      simp (disch := omega) only [w_ne, w_at, wl_ne, wl_at, wc_ne, wc_at, upd_at, upd_ne, upl_at, upl_ne, cpy_in0, zn_cl, zn_add, zn_mul, zn_sub, zn_pm, br_tt, br_ff, br_ltT, br_ltF, br_leT, br_leF, br_eqT, br_eqF, br_eqs, br_eqm, br_eqm', br_ltm, br_mlt, br_lem, br_mle, br_oiF, br_lgge, br_lgle, br_lggt, br_lglt, br_lgeq, br_zb, br_zb1, bV_s, bI_s, bL_s, zo_n, zo_s, q1]
      exact b1
    · unfold gE; rw [if_pos e]; exact b2
    · intro c hc; rw [b3 c hc]; simp (disch := omega) only [w_ne, w_at, wl_ne, wl_at, wc_ne, wc_at, upd_at, upd_ne, upl_at, upl_ne, cpy_in0, zn_cl, zn_add, zn_mul, zn_sub, zn_pm, br_tt, br_ff, br_ltT, br_ltF, br_leT, br_leF, br_eqT, br_eqF, br_eqs, br_eqm, br_eqm', br_ltm, br_mlt, br_lem, br_mle, br_oiF, br_lgge, br_lgle, br_lggt, br_lglt, br_lgeq, br_zb, br_zb1, bV_s, bI_s, bL_s, zo_n, zo_s]
    · intro i hi; rw [b4 i hi]; simp (disch := omega) only [w_ne, w_at, wl_ne, wl_at, wc_ne, wc_at, upd_at, upd_ne, upl_at, upl_ne, cpy_in0, zn_cl, zn_add, zn_mul, zn_sub, zn_pm, br_tt, br_ff, br_ltT, br_ltF, br_leT, br_leF, br_eqT, br_eqF, br_eqs, br_eqm, br_eqm', br_ltm, br_mlt, br_lem, br_mle, br_oiF, br_lgge, br_lgle, br_lggt, br_lglt, br_lgeq, br_zb, br_zb1, bV_s, bI_s, bL_s, zo_n, zo_s]
