/-! a scene begins: the class, the reference; what the reference keeps meanwhile -/
def mt0 (T : Td) : List (Nat × Nat) := (List.range (T 0 4)).map (fun i => (min (T 10 i) (T 11 i), max (T 10 i) (T 11 i)))
theorem mt0_len {T : Td} : (mt0 T).length = T 0 4 := by simp [mt0]
theorem mt0_at {T : Td} {i : Nat} (h : i < T 0 4) : (mt0 T).getD i (0, 0) = (min (T 10 i) (T 11 i), max (T 10 i) (T 11 i)) := by simp [mt0, List.getD_eq_getElem?_getD, h]
theorem range_getD {n i : Nat} (h : i < n) : (List.range n).getD i 0 = i := by simp [List.getD_eq_getElem?_getD, h]
def h0 : Hs := fun i => some i
def q0 (T : Td) : Sq := (List.range (T 0 1), T 9, mt0 T, h0)
theorem sum_id {s : Nat} (r : Nat) : ∀ i, sp_sum (fun i => sp_is s (h0 i)) r i = if i ≤ s ∧ s < i + r then 1 else 0 := by
  induction r with
  | zero => intro i; rw [sp_sum, if_neg (by omega)]
  | succ r ih =>
    intro i
    rw [sp_sum, ih]
    unfold sp_is h0
    by_cases e : i = s
    · subst e; rw [if_pos rfl, if_neg (by omega), if_pos (by omega)]
    · rw [if_neg (by intro q; exact e (Option.some.inj q))]
      by_cases g : i ≤ s ∧ s < i + (r + 1)
      · rw [if_pos g, if_pos (by omega)]
      · rw [if_neg g, if_neg (by omega)]
theorem sum_one (r : Nat) : ∀ i, sp_sum (fun i => sp_ne (h0 i)) r i = r := by
  induction r with
  | zero => intro i; rfl
  | succ r ih => intro i; rw [sp_sum, ih]; show 1 + r = r + 1; omega
theorem hw_0 (n : Nat) : hwI n h0 [] := by
  refine ⟨fun s => ?_, ?_⟩
  · show 0 + sp_sum (fun i => sp_is s (h0 i)) n 0 = _
    rw [sum_id, Nat.zero_add]
    by_cases g : s < n
    · rw [if_pos g, if_pos (by omega)]
    · rw [if_neg g, if_neg (by omega)]
  · show 0 + sp_sum (fun i => sp_ne (h0 i)) n 0 = n
    rw [sum_one, Nat.zero_add]
theorem qW_0 {T : Td} (W : tW T) : qW T [] (q0 T) := by
  refine ⟨?_, ?_, ?_, List.nodup_range, W.hu, ?_, ?_, hw_0 _⟩
  · show (List.range (T 0 1)).length = _; simp
  · intro l hl; exact List.mem_range.mp hl
  · intro l hl; exact List.mem_range.mpr hl
  · show (mt0 T).length ≤ 10; rw [mt0_len]; exact W.mn
  · intro p hp
    show _
    obtain ⟨i, h1, h2⟩ := List.mem_map.mp (show p ∈ (List.range (T 0 4)).map _ from hp)
    have := W.ms i (List.mem_range.mp h1)
    subst h2
    show min (T 10 i) (T 11 i) < max (T 10 i) (T 11 i) ∧ max (T 10 i) (T 11 i) < T 0 0
    omega
theorem lp_begin {k : Nat} (hk : sc_k k) {d : Nat} (r : Nat) : ∀ (i f : Nat) (m : am_M), i + r = 5 → r < f →
    ∃ m1 : am_M, r_Scene_begin_23 k d f (zn i) m = some (none, (am_w (am_w (am_wc (am_wc (am_w m1.1 k 9 (m.1 27 11)) 37 (k + 5) 0 0 10) 38 (k + 6) 0 0 10) k 10 (zn 0)) k 11 (m.1 27 16), m.2)) ∧ (∀ c, c ≠ k + 1 → c ≠ k + 3 → c ≠ k + 4 → m1.1 c = m.1 c) ∧ (∀ q, i ≤ q → q < 5 → m1.1 (k + 1) q = zn q ∧ m1.1 (k + 4) q = zn q ∧ m1.1 (k + 3) q = m.1 35 q) ∧ ∀ q, q < i → m1.1 (k + 1) q = m.1 (k + 1) q ∧ m1.1 (k + 4) q = m.1 (k + 4) q ∧ m1.1 (k + 3) q = m.1 (k + 3) q := by
  have hk2 := sc_lo hk
  induction r with
  | zero =>
    intro i f m h1 h2
    obtain ⟨f, rfl⟩ : ∃ g, f = g + 1 := ⟨f - 1, by omega⟩
    refine ⟨m, ?_, fun _ _ _ _ => rfl, fun q _ _ => by omega, fun _ _ => ⟨rfl, rfl, rfl⟩⟩
    rw [e_Scene_begin_23 hk, br_leT (by omega) (by omega)]
  | succ r ih =>
    intro i f m h1 h2
    obtain ⟨f, rfl⟩ : ∃ g, f = g + 1 := ⟨f - 1, by omega⟩
    obtain ⟨m1, b1, b2, b3, b4⟩ := ih (i + 1) f (am_w (am_w (am_w m.1 (k + 1) i (zn i)) (k + 4) i (zn i)) (k + 3) i (m.1 35 i), m.2) (by omega) (by omega)
    have e27 : ((am_w (am_w (am_w m.1 (k + 1) i (zn i)) (k + 4) i (zn i)) (k + 3) i (m.1 35 i), m.2) : am_M).1 27 = m.1 27 := by simp (disch := omega) only [w_ne, w_at, wl_ne, wl_at, wc_ne, wc_at, upd_at, upd_ne, upl_at, upl_ne, cpy_in0, zn_cl, zn_add, zn_mul, zn_sub, zn_pm, br_tt, br_ff, br_ltT, br_ltF, br_leT, br_leF, br_eqT, br_eqF, br_eqs, br_eqm, br_eqm', br_ltm, br_mlt, br_lem, br_mle, br_oiF, br_lgge, br_lgle, br_lggt, br_lglt, br_lgeq, br_zb, br_zb1, bV_s, bI_s, bL_s, zo_n, zo_s]
    have e35 : ((am_w (am_w (am_w m.1 (k + 1) i (zn i)) (k + 4) i (zn i)) (k + 3) i (m.1 35 i), m.2) : am_M).1 35 = m.1 35 := by simp (disch := omega) only [w_ne, w_at, wl_ne, wl_at, wc_ne, wc_at, upd_at, upd_ne, upl_at, upl_ne, cpy_in0, zn_cl, zn_add, zn_mul, zn_sub, zn_pm, br_tt, br_ff, br_ltT, br_ltF, br_leT, br_leF, br_eqT, br_eqF, br_eqs, br_eqm, br_eqm', br_ltm, br_mlt, br_lem, br_mle, br_oiF, br_lgge, br_lgle, br_lggt, br_lglt, br_lgeq, br_zb, br_zb1, bV_s, bI_s, bL_s, zo_n, zo_s]
    refine ⟨m1, ?_, ?_, ?_, ?_⟩
    · rw [e_Scene_begin_23 hk, br_leF (by omega) (by omega), br_oiF (by omega) (by omega), br_oiF (by omega) (by omega), br_oiF (by omega) (by omega), br_oiF (by omega) (by omega), zn_cl (by omega), zn_add, b1, e27]
    · intro c c1 c2 c3; rw [b2 c c1 c2 c3]; simp (disch := omega) only [w_ne, w_at, wl_ne, wl_at, wc_ne, wc_at, upd_at, upd_ne, upl_at, upl_ne, cpy_in0, zn_cl, zn_add, zn_mul, zn_sub, zn_pm, br_tt, br_ff, br_ltT, br_ltF, br_leT, br_leF, br_eqT, br_eqF, br_eqs, br_eqm, br_eqm', br_ltm, br_mlt, br_lem, br_mle, br_oiF, br_lgge, br_lgle, br_lggt, br_lglt, br_lgeq, br_zb, br_zb1, bV_s, bI_s, bL_s, zo_n, zo_s]
    · intro q h3 h4
      by_cases e : q = i
      · subst e
        have := b4 q (by omega)
        rw [this.1, this.2.1, this.2.2]; simp (disch := omega) only [w_ne, w_at, wl_ne, wl_at, wc_ne, wc_at, upd_at, upd_ne, upl_at, upl_ne, cpy_in0, zn_cl, zn_add, zn_mul, zn_sub, zn_pm, br_tt, br_ff, br_ltT, br_ltF, br_leT, br_leF, br_eqT, br_eqF, br_eqs, br_eqm, br_eqm', br_ltm, br_mlt, br_lem, br_mle, br_oiF, br_lgge, br_lgle, br_lggt, br_lglt, br_lgeq, br_zb, br_zb1, bV_s, bI_s, bL_s, zo_n, zo_s, and_self]
      · have := b3 q (by omega) h4
        rw [this.1, this.2.1, this.2.2, e35]; exact ⟨rfl, rfl, rfl⟩
    · intro q hq
      have := b4 q (by omega)
      rw [this.1, this.2.1, this.2.2]; simp (disch := omega) only [w_ne, w_at, wl_ne, wl_at, wc_ne, wc_at, upd_at, upd_ne, upl_at, upl_ne, cpy_in0, zn_cl, zn_add, zn_mul, zn_sub, zn_pm, br_tt, br_ff, br_ltT, br_ltF, br_leT, br_leF, br_eqT, br_eqF, br_eqs, br_eqm, br_eqm', br_ltm, br_mlt, br_lem, br_mle, br_oiF, br_lgge, br_lgle, br_lggt, br_lglt, br_lgeq, br_zb, br_zb1, bV_s, bI_s, bL_s, zo_n, zo_s, and_self]
theorem s_begin {k : Nat} (hk : sc_k k) {T : Td} (W : tW T) {d : Nat} {m : am_M} (hn : m.1 27 0 = zn (T 0 0)) (hL : m.1 27 8 = zn (T 0 1)) (hmn : m.1 27 11 = zn (T 0 4)) (hsd : m.1 27 16 = zn (T 0 5)) (hhu : ∀ i, i < T 0 1 → m.1 35 i = zn (T 9 i)) (hms : ∀ i, i < T 0 4 → m.1 37 i = zn (T 10 i) ∧ m.1 38 i = zn (T 11 i)) :
    ∃ m', am_c (d + 1) y_Scene_begin [.ref k, .ref 27] m = some (none, m') ∧ sn k T (List.range (T 0 1)) (T 9) (mt0 T) h0 [] 0 m' ∧ m'.1 k 11 = zn (T 0 5) ∧ fsc k m m' := by
  have hk2 := sc_lo hk
  have h5 := W.n; have h6 := W.L; have h7 := W.mn
  obtain ⟨m1, b1, b2, b3, b4⟩ := lp_begin hk (d := d) 5 0 29999 (am_w (am_w (am_w m.1 k 0 (m.1 27 0)) k 3 (zn 0)) k 6 (m.1 27 8), m.2) (by omega) (by omega)
  have e27 : ((am_w (am_w (am_w m.1 k 0 (m.1 27 0)) k 3 (zn 0)) k 6 (m.1 27 8), m.2) : am_M).1 27 = m.1 27 := by simp (disch := omega) only [w_ne, w_at, wl_ne, wl_at, wc_ne, wc_at, upd_at, upd_ne, upl_at, upl_ne, cpy_in0, zn_cl, zn_add, zn_mul, zn_sub, zn_pm, br_tt, br_ff, br_ltT, br_ltF, br_leT, br_leF, br_eqT, br_eqF, br_eqs, br_eqm, br_eqm', br_ltm, br_mlt, br_lem, br_mle, br_oiF, br_lgge, br_lgle, br_lggt, br_lglt, br_lgeq, br_zb, br_zb1, bV_s, bI_s, bL_s, zo_n, zo_s]
  rw [e27] at b1
  have e0 : ∀ c, c ≠ k → c ≠ k + 1 → c ≠ k + 3 → c ≠ k + 4 → m1.1 c = m.1 c := fun c c1 c2 c3 c4 => by rw [b2 c c2 c3 c4]; simp (disch := omega) only [w_ne, w_at, wl_ne, wl_at, wc_ne, wc_at, upd_at, upd_ne, upl_at, upl_ne, cpy_in0, zn_cl, zn_add, zn_mul, zn_sub, zn_pm, br_tt, br_ff, br_ltT, br_ltF, br_leT, br_leF, br_eqT, br_eqF, br_eqs, br_eqm, br_eqm', br_ltm, br_mlt, br_lem, br_mle, br_oiF, br_lgge, br_lgle, br_lggt, br_lglt, br_lgeq, br_zb, br_zb1, bV_s, bI_s, bL_s, zo_n, zo_s]
  have ek := b2 k (by omega) (by omega) (by omega)
  refine ⟨_, (n_Scene_begin hk d m).trans b1, ⟨?_, ?_, ?_, ?_, ?_, ?_, ?_, ?_, ?_, ?_⟩, ?_, rfl, ?_⟩
  · simp (disch := omega) only [w_ne, w_at, wl_ne, wl_at, wc_ne, wc_at, upd_at, upd_ne, upl_at, upl_ne, cpy_in0, zn_cl, zn_add, zn_mul, zn_sub, zn_pm, br_tt, br_ff, br_ltT, br_ltF, br_leT, br_leF, br_eqT, br_eqF, br_eqs, br_eqm, br_eqm', br_ltm, br_mlt, br_lem, br_mle, br_oiF, br_lgge, br_lgle, br_lggt, br_lglt, br_lgeq, br_zb, br_zb1, bV_s, bI_s, bL_s, zo_n, zo_s, ek, hn]
  · intro i hi; simp (disch := omega) only [w_ne, w_at, wl_ne, wl_at, wc_ne, wc_at, upd_at, upd_ne, upl_at, upl_ne, cpy_in0, zn_cl, zn_add, zn_mul, zn_sub, zn_pm, br_tt, br_ff, br_ltT, br_ltF, br_leT, br_leF, br_eqT, br_eqF, br_eqs, br_eqm, br_eqm', br_ltm, br_mlt, br_lem, br_mle, br_oiF, br_lgge, br_lgle, br_lggt, br_lglt, br_lgeq, br_zb, br_zb1, bV_s, bI_s, bL_s, zo_n, zo_s, (b3 i (by omega) (by omega)).1]; rfl
  · simp (disch := omega) only [w_ne, w_at, wl_ne, wl_at, wc_ne, wc_at, upd_at, upd_ne, upl_at, upl_ne, cpy_in0, zn_cl, zn_add, zn_mul, zn_sub, zn_pm, br_tt, br_ff, br_ltT, br_ltF, br_leT, br_leF, br_eqT, br_eqF, br_eqs, br_eqm, br_eqm', br_ltm, br_mlt, br_lem, br_mle, br_oiF, br_lgge, br_lgle, br_lggt, br_lglt, br_lgeq, br_zb, br_zb1, bV_s, bI_s, bL_s, zo_n, zo_s, ek]; rfl
  · intro i hi; exact absurd hi (by simp)
  · simp (disch := omega) only [w_ne, w_at, wl_ne, wl_at, wc_ne, wc_at, upd_at, upd_ne, upl_at, upl_ne, cpy_in0, zn_cl, zn_add, zn_mul, zn_sub, zn_pm, br_tt, br_ff, br_ltT, br_ltF, br_leT, br_leF, br_eqT, br_eqF, br_eqs, br_eqm, br_eqm', br_ltm, br_mlt, br_lem, br_mle, br_oiF, br_lgge, br_lgle, br_lggt, br_lglt, br_lgeq, br_zb, br_zb1, bV_s, bI_s, bL_s, zo_n, zo_s]
  · simp (disch := omega) only [w_ne, w_at, wl_ne, wl_at, wc_ne, wc_at, upd_at, upd_ne, upl_at, upl_ne, cpy_in0, zn_cl, zn_add, zn_mul, zn_sub, zn_pm, br_tt, br_ff, br_ltT, br_ltF, br_leT, br_leF, br_eqT, br_eqF, br_eqs, br_eqm, br_eqm', br_ltm, br_mlt, br_lem, br_mle, br_oiF, br_lgge, br_lgle, br_lggt, br_lglt, br_lgeq, br_zb, br_zb1, bV_s, bI_s, bL_s, zo_n, zo_s, ek, hL, List.length_range]
  · intro i hi
    rw [List.length_range] at hi
    simp (disch := omega) only [w_ne, w_at, wl_ne, wl_at, wc_ne, wc_at, upd_at, upd_ne, upl_at, upl_ne, cpy_in0, zn_cl, zn_add, zn_mul, zn_sub, zn_pm, br_tt, br_ff, br_ltT, br_ltF, br_leT, br_leF, br_eqT, br_eqF, br_eqs, br_eqm, br_eqm', br_ltm, br_mlt, br_lem, br_mle, br_oiF, br_lgge, br_lgle, br_lggt, br_lglt, br_lgeq, br_zb, br_zb1, bV_s, bI_s, bL_s, zo_n, zo_s, (b3 i (by omega) (by omega)).2.1, range_getD]
  · intro i hi
    simp (disch := omega) only [w_ne, w_at, wl_ne, wl_at, wc_ne, wc_at, upd_at, upd_ne, upl_at, upl_ne, cpy_in0, zn_cl, zn_add, zn_mul, zn_sub, zn_pm, br_tt, br_ff, br_ltT, br_ltF, br_leT, br_leF, br_eqT, br_eqF, br_eqs, br_eqm, br_eqm', br_ltm, br_mlt, br_lem, br_mle, br_oiF, br_lgge, br_lgle, br_lggt, br_lglt, br_lgeq, br_zb, br_zb1, bV_s, bI_s, bL_s, zo_n, zo_s, (b3 i (by omega) (by omega)).2.2, hhu]
  · simp (disch := omega) only [w_ne, w_at, wl_ne, wl_at, wc_ne, wc_at, upd_at, upd_ne, upl_at, upl_ne, cpy_in0, zn_cl, zn_add, zn_mul, zn_sub, zn_pm, br_tt, br_ff, br_ltT, br_ltF, br_leT, br_leF, br_eqT, br_eqF, br_eqs, br_eqm, br_eqm', br_ltm, br_mlt, br_lem, br_mle, br_oiF, br_lgge, br_lgle, br_lggt, br_lglt, br_lgeq, br_zb, br_zb1, bV_s, bI_s, bL_s, zo_n, zo_s, hmn, mt0_len]
  · intro i hi
    rw [mt0_len] at hi
    have := hms i hi
    rw [mt0_at hi]
    simp (disch := omega) only [w_ne, w_at, wl_ne, wl_at, wc_ne, wc_at, upd_at, upd_ne, upl_at, upl_ne, cpy_in0, zn_cl, zn_add, zn_mul, zn_sub, zn_pm, br_tt, br_ff, br_ltT, br_ltF, br_leT, br_leF, br_eqT, br_eqF, br_eqs, br_eqm, br_eqm', br_ltm, br_mlt, br_lem, br_mle, br_oiF, br_lgge, br_lgle, br_lggt, br_lglt, br_lgeq, br_zb, br_zb1, bV_s, bI_s, bL_s, zo_n, zo_s, e0, this.1, this.2]
    rcases Nat.le_total (T 10 i) (T 11 i) with g | g
    · rw [Nat.min_eq_left g, Nat.max_eq_right g]; exact Or.inl ⟨rfl, rfl⟩
    · rw [Nat.min_eq_right g, Nat.max_eq_left g]; exact Or.inr ⟨rfl, rfl⟩
  · simp (disch := omega) only [w_ne, w_at, wl_ne, wl_at, wc_ne, wc_at, upd_at, upd_ne, upl_at, upl_ne, cpy_in0, zn_cl, zn_add, zn_mul, zn_sub, zn_pm, br_tt, br_ff, br_ltT, br_ltF, br_leT, br_leF, br_eqT, br_eqF, br_eqs, br_eqm, br_eqm', br_ltm, br_mlt, br_lem, br_mle, br_oiF, br_lgge, br_lgle, br_lggt, br_lglt, br_lgeq, br_zb, br_zb1, bV_s, bI_s, bL_s, zo_n, zo_s, hsd]
  · intro c hc; simp (disch := omega) only [w_ne, w_at, wl_ne, wl_at, wc_ne, wc_at, upd_at, upd_ne, upl_at, upl_ne, cpy_in0, zn_cl, zn_add, zn_mul, zn_sub, zn_pm, br_tt, br_ff, br_ltT, br_ltF, br_leT, br_leF, br_eqT, br_eqF, br_eqs, br_eqm, br_eqm', br_ltm, br_mlt, br_lem, br_mle, br_oiF, br_lgge, br_lgle, br_lggt, br_lglt, br_lgeq, br_zb, br_zb1, bV_s, bI_s, bL_s, zo_n, zo_s, e0]
/-! the reference -/
def fqT (m : am_M) (m' : am_M) : Prop :=
  (∀ c, c ≤ 106 ∨ 108 ≤ c ∧ c ≤ 129 ∨ 148 ≤ c → m'.1 c = m.1 c)
  ∧ (∀ i, i < 5 → m'.1 132 i = m.1 132 i ∧ m'.1 133 i = m.1 133 i)
  ∧ (m'.1 134 0 = m.1 134 0)
  ∧ (m'.1 135 0 = m.1 135 0)
  ∧ (∀ i, 5 ≤ i → m'.1 136 i = m.1 136 i)
  ∧ (∀ i, 10 ≤ i → m'.1 138 i = m.1 138 i ∧ m'.1 139 i = m.1 139 i)
  ∧ (∀ i, i = 1 ∨ i = 4 ∨ i = 5 ∨ 12 ≤ i ∧ i ≤ 15 ∨ i = 78 ∨ i = 79 ∨ i = 85 ∨ i = 87 ∨ i = 90 ∨ i = 91 → m'.1 107 i = m.1 107 i)
  ∧ (∀ c, c ≤ 106 → m'.2 c = m.2 c)
  ∧ (m'.2 107 58 = m.2 107 58 ∧ m'.2 107 92 = m.2 107 92)
theorem fqT.c {m : am_M} {m' : am_M} (hZ : fqT m m') : ∀ c, c ≤ 106 ∨ 108 ≤ c ∧ c ≤ 129 ∨ 148 ≤ c → m'.1 c = m.1 c := hZ.1
theorem fqT.s {m : am_M} {m' : am_M} (hZ : fqT m m') : ∀ i, i < 5 → m'.1 132 i = m.1 132 i ∧ m'.1 133 i = m.1 133 i := hZ.2.1
theorem fqT.w {m : am_M} {m' : am_M} (hZ : fqT m m') : m'.1 134 0 = m.1 134 0 := hZ.2.2.1
theorem fqT.d {m : am_M} {m' : am_M} (hZ : fqT m m') : m'.1 135 0 = m.1 135 0 := hZ.2.2.2.1
theorem fqT.u {m : am_M} {m' : am_M} (hZ : fqT m m') : ∀ i, 5 ≤ i → m'.1 136 i = m.1 136 i := hZ.2.2.2.2.1
theorem fqT.t {m : am_M} {m' : am_M} (hZ : fqT m m') : ∀ i, 10 ≤ i → m'.1 138 i = m.1 138 i ∧ m'.1 139 i = m.1 139 i := hZ.2.2.2.2.2.1
theorem fqT.f {m : am_M} {m' : am_M} (hZ : fqT m m') : ∀ i, i = 1 ∨ i = 4 ∨ i = 5 ∨ 12 ≤ i ∧ i ≤ 15 ∨ i = 78 ∨ i = 79 ∨ i = 85 ∨ i = 87 ∨ i = 90 ∨ i = 91 → m'.1 107 i = m.1 107 i := hZ.2.2.2.2.2.2.1
theorem fqT.l {m : am_M} {m' : am_M} (hZ : fqT m m') : ∀ c, c ≤ 106 → m'.2 c = m.2 c := hZ.2.2.2.2.2.2.2.1
theorem fqT.r {m : am_M} {m' : am_M} (hZ : fqT m m') : m'.2 107 58 = m.2 107 58 ∧ m'.2 107 92 = m.2 107 92 := hZ.2.2.2.2.2.2.2.2
theorem fqT_refl (m : am_M) : fqT m m := ⟨fun _ _ => rfl, fun _ _ => ⟨rfl, rfl⟩, rfl, rfl, fun _ _ => rfl, fun _ _ => ⟨rfl, rfl⟩, fun _ _ => rfl, fun _ _ => rfl, rfl, rfl⟩
theorem fqT_tr {m m1 m2 : am_M} (h : fqT m m1) (g : fqT m1 m2) : fqT m m2 :=
  ⟨fun c e => (g.c c e).trans (h.c c e), fun i e => ⟨(g.s i e).1.trans (h.s i e).1, (g.s i e).2.trans (h.s i e).2⟩, g.w.trans h.w, g.d.trans h.d, fun i e => (g.u i e).trans (h.u i e), fun i e => ⟨(g.t i e).1.trans (h.t i e).1, (g.t i e).2.trans (h.t i e).2⟩, fun i e => (g.f i e).trans (h.f i e), fun c e => (g.l c e).trans (h.l c e), g.r.1.trans h.r.1, g.r.2.trans h.r.2⟩
theorem fry.T {m m' : am_M} (f : fry 1 m m') : fqT m m' := by
  refine ⟨fun c hc => f.2.1 c (by omega) (by omega) (by omega) (by omega) (by omega), fun i hi => ⟨(f.2.2.2.1 i (by omega)).1, (f.2.2.2.1 i (by omega)).2⟩, (f.2.2.2.2 0 (by omega)).1, (f.2.2.2.2 0 (by omega)).2, fun i hi => by rw [f.2.1 136 (by omega) (by omega) (by omega) (by omega) (by omega)], fun i hi => by rw [f.2.1 138 (by omega) (by omega) (by omega) (by omega) (by omega), f.2.1 139 (by omega) (by omega) (by omega) (by omega) (by omega)]; exact ⟨rfl, rfl⟩, fun i hi => f.2.2.1 i (by omega), fun c hc => f.1 c (by omega) (by omega) (by omega), ?_, ?_⟩ <;> rw [f.1 107 (by omega) (by omega) (by omega)]
theorem tR.T {T G F : Td} {m m' : am_M} (c : tR T G F m) (f : fqT m m') : tR T G F m' := c.mono (fun q _ _ => f.c q (by omega)) (fun i _ _ => f.f i (by omega))
theorem lp_lt1 {d : Nat} (r : Nat) : ∀ (i f : Nat) (m : am_M), i + r = 10 → r < f →
    ∃ f' m1, r_M_layTextTried_10 d f (zn i) m = r_M_layTextTried_48 d f' (zn 0) m1 ∧ f ≤ f' + r + 1 ∧ m1.2 = m.2 ∧ (∀ c, c ≠ 138 → c ≠ 139 → m1.1 c = m.1 c) ∧ (∀ q, i ≤ q → q < 10 → m1.1 138 q = m.1 120 q ∧ m1.1 139 q = m.1 121 q) ∧ ∀ q, q < i ∨ 10 ≤ q → m1.1 138 q = m.1 138 q ∧ m1.1 139 q = m.1 139 q := by
  induction r with
  | zero =>
    intro i f m h1 h2
    obtain ⟨f, rfl⟩ : ∃ g, f = g + 1 := ⟨f - 1, by omega⟩
    refine ⟨f, m, ?_, by omega, rfl, fun _ _ _ => rfl, fun q _ _ => by omega, fun _ _ => ⟨rfl, rfl⟩⟩
    rw [e_M_layTextTried_10, br_leT (by omega) (by omega)]
  | succ r ih =>
    intro i f m h1 h2
    obtain ⟨f, rfl⟩ : ∃ g, f = g + 1 := ⟨f - 1, by omega⟩
    obtain ⟨f', m1, b1, b0, b2, b3, b4, b5⟩ := ih (i + 1) f (am_w (am_w m.1 138 i (m.1 120 i)) 139 i (m.1 121 i), m.2) (by omega) (by omega)
    refine ⟨f', m1, ?_, by omega, b2, ?_, ?_, ?_⟩
    · rw [e_M_layTextTried_10]
      simp (disch := omega) only [w_ne, w_at, wl_ne, wl_at, wc_ne, wc_at, upd_at, upd_ne, upl_at, upl_ne, cpy_in0, zn_cl, zn_add, zn_mul, zn_sub, zn_pm, br_tt, br_ff, br_ltT, br_ltF, br_leT, br_leF, br_eqT, br_eqF, br_eqs, br_eqm, br_eqm', br_ltm, br_mlt, br_lem, br_mle, br_oiF, br_lgge, br_lgle, br_lggt, br_lglt, br_lgeq, br_zb, br_zb1, bV_s, bI_s, bL_s, zo_n, zo_s]
      exact b1
    · intro c c1 c2; rw [b3 c c1 c2]; simp (disch := omega) only [w_ne, w_at, wl_ne, wl_at, wc_ne, wc_at, upd_at, upd_ne, upl_at, upl_ne, cpy_in0, zn_cl, zn_add, zn_mul, zn_sub, zn_pm, br_tt, br_ff, br_ltT, br_ltF, br_leT, br_leF, br_eqT, br_eqF, br_eqs, br_eqm, br_eqm', br_ltm, br_mlt, br_lem, br_mle, br_oiF, br_lgge, br_lgle, br_lggt, br_lglt, br_lgeq, br_zb, br_zb1, bV_s, bI_s, bL_s, zo_n, zo_s]
    · intro q h3 h4
      by_cases e : q = i
      · subst e; rw [(b5 q (by omega)).1, (b5 q (by omega)).2]; simp (disch := omega) only [w_ne, w_at, wl_ne, wl_at, wc_ne, wc_at, upd_at, upd_ne, upl_at, upl_ne, cpy_in0, zn_cl, zn_add, zn_mul, zn_sub, zn_pm, br_tt, br_ff, br_ltT, br_ltF, br_leT, br_leF, br_eqT, br_eqF, br_eqs, br_eqm, br_eqm', br_ltm, br_mlt, br_lem, br_mle, br_oiF, br_lgge, br_lgle, br_lggt, br_lglt, br_lgeq, br_zb, br_zb1, bV_s, bI_s, bL_s, zo_n, zo_s, and_self]
      · rw [(b4 q (by omega) h4).1, (b4 q (by omega) h4).2]; simp (disch := omega) only [w_ne, w_at, wl_ne, wl_at, wc_ne, wc_at, upd_at, upd_ne, upl_at, upl_ne, cpy_in0, zn_cl, zn_add, zn_mul, zn_sub, zn_pm, br_tt, br_ff, br_ltT, br_ltF, br_leT, br_leF, br_eqT, br_eqF, br_eqs, br_eqm, br_eqm', br_ltm, br_mlt, br_lem, br_mle, br_oiF, br_lgge, br_lgle, br_lggt, br_lglt, br_lgeq, br_zb, br_zb1, bV_s, bI_s, bL_s, zo_n, zo_s, and_self]
    · intro q hq
      rw [(b5 q (by omega)).1, (b5 q (by omega)).2]; simp (disch := omega) only [w_ne, w_at, wl_ne, wl_at, wc_ne, wc_at, upd_at, upd_ne, upl_at, upl_ne, cpy_in0, zn_cl, zn_add, zn_mul, zn_sub, zn_pm, br_tt, br_ff, br_ltT, br_ltF, br_leT, br_leF, br_eqT, br_eqF, br_eqs, br_eqm, br_eqm', br_ltm, br_mlt, br_lem, br_mle, br_oiF, br_lgge, br_lgle, br_lggt, br_lglt, br_lgeq, br_zb, br_zb1, bV_s, bI_s, bL_s, zo_n, zo_s, and_self]
theorem lp_lt2 {d n : Nat} (hn : n ≤ 5) (r : Nat) : ∀ (i f : Nat) (m : am_M), i + r = 5 → r < f → m.1 107 12 = zn n →
    ∃ f' m1, r_M_layTextTried_48 d f (zn i) m = r_M_layTextTried_48 d (f' + 1) (zn 5) m1 ∧ m1.2 = m.2 ∧ (∀ c, c ≠ 132 → c ≠ 136 → c ≠ 137 → m1.1 c = m.1 c) ∧ (∀ q, i ≤ q → q < 5 → m1.1 136 q = m.1 118 q ∧ m1.1 137 q = zn q ∧ m1.1 132 (5 + q) = if q < n then zn q else zm) ∧ (∀ q, q < i → m1.1 136 q = m.1 136 q ∧ m1.1 137 q = m.1 137 q ∧ m1.1 132 (5 + q) = m.1 132 (5 + q)) ∧ (∀ q, q < 5 → m1.1 132 q = m.1 132 q) ∧ ∀ q, 5 ≤ q → m1.1 136 q = m.1 136 q := by
  induction r with
  | zero =>
    intro i f m h1 h2 h3
    refine ⟨f - 1, m, ?_, rfl, fun _ _ _ _ => rfl, fun q _ _ => by omega, fun _ _ => ⟨rfl, rfl, rfl⟩, fun _ _ => rfl, fun _ _ => rfl⟩
    rw [Nat.sub_add_cancel (by omega), show i = 5 from by omega]
  | succ r ih =>
    intro i f m h1 h2 h3
    obtain ⟨f, rfl⟩ : ∃ g, f = g + 1 := ⟨f - 1, by omega⟩
    have hx : ∃ x, x = (if i < n then zn i else zm) := ⟨_, rfl⟩
    obtain ⟨x, hx⟩ := hx
    obtain ⟨f', m1, b1, b2, b3, b4, b5, b6, b7⟩ := ih (i + 1) f (am_w (am_w (am_w m.1 136 i (m.1 118 i)) 137 i (zn i)) 132 (5 + i) x, m.2) (by omega) (by omega) (by simp (disch := omega) only [w_ne, w_at, wl_ne, wl_at, wc_ne, wc_at, upd_at, upd_ne, upl_at, upl_ne, cpy_in0, zn_cl, zn_add, zn_mul, zn_sub, zn_pm, br_tt, br_ff, br_ltT, br_ltF, br_leT, br_leF, br_eqT, br_eqF, br_eqs, br_eqm, br_eqm', br_ltm, br_mlt, br_lem, br_mle, br_oiF, br_lgge, br_lgle, br_lggt, br_lglt, br_lgeq, br_zb, br_zb1, bV_s, bI_s, bL_s, zo_n, zo_s, h3])
    refine ⟨f', m1, ?_, b2, ?_, ?_, ?_, ?_, ?_⟩
    · rw [← b1, e_M_layTextTried_48]
      by_cases g : i < n
      · rw [if_pos g] at hx; subst hx; simp (disch := omega) only [w_ne, w_at, wl_ne, wl_at, wc_ne, wc_at, upd_at, upd_ne, upl_at, upl_ne, cpy_in0, zn_cl, zn_add, zn_mul, zn_sub, zn_pm, br_tt, br_ff, br_ltT, br_ltF, br_leT, br_leF, br_eqT, br_eqF, br_eqs, br_eqm, br_eqm', br_ltm, br_mlt, br_lem, br_mle, br_oiF, br_lgge, br_lgle, br_lggt, br_lglt, br_lgeq, br_zb, br_zb1, bV_s, bI_s, bL_s, zo_n, zo_s, h3]
      · rw [if_neg g] at hx; subst hx; simp (disch := omega) only [w_ne, w_at, wl_ne, wl_at, wc_ne, wc_at, upd_at, upd_ne, upl_at, upl_ne, cpy_in0, zn_cl, zn_add, zn_mul, zn_sub, zn_pm, br_tt, br_ff, br_ltT, br_ltF, br_leT, br_leF, br_eqT, br_eqF, br_eqs, br_eqm, br_eqm', br_ltm, br_mlt, br_lem, br_mle, br_oiF, br_lgge, br_lgle, br_lggt, br_lglt, br_lgeq, br_zb, br_zb1, bV_s, bI_s, bL_s, zo_n, zo_s, h3]
    · intro c c1 c2 c3; rw [b3 c c1 c2 c3]; simp (disch := omega) only [w_ne, w_at, wl_ne, wl_at, wc_ne, wc_at, upd_at, upd_ne, upl_at, upl_ne, cpy_in0, zn_cl, zn_add, zn_mul, zn_sub, zn_pm, br_tt, br_ff, br_ltT, br_ltF, br_leT, br_leF, br_eqT, br_eqF, br_eqs, br_eqm, br_eqm', br_ltm, br_mlt, br_lem, br_mle, br_oiF, br_lgge, br_lgle, br_lggt, br_lglt, br_lgeq, br_zb, br_zb1, bV_s, bI_s, bL_s, zo_n, zo_s]
    · intro q h4 h5
      by_cases e : q = i
      · subst e
        have := b5 q (by omega)
        rw [this.1, this.2.1, this.2.2, ← hx]; simp (disch := omega) only [w_ne, w_at, wl_ne, wl_at, wc_ne, wc_at, upd_at, upd_ne, upl_at, upl_ne, cpy_in0, zn_cl, zn_add, zn_mul, zn_sub, zn_pm, br_tt, br_ff, br_ltT, br_ltF, br_leT, br_leF, br_eqT, br_eqF, br_eqs, br_eqm, br_eqm', br_ltm, br_mlt, br_lem, br_mle, br_oiF, br_lgge, br_lgle, br_lggt, br_lglt, br_lgeq, br_zb, br_zb1, bV_s, bI_s, bL_s, zo_n, zo_s, and_self]
      · have := b4 q (by omega) h5
        rw [this.1, this.2.1, this.2.2]; simp (disch := omega) only [w_ne, w_at, wl_ne, wl_at, wc_ne, wc_at, upd_at, upd_ne, upl_at, upl_ne, cpy_in0, zn_cl, zn_add, zn_mul, zn_sub, zn_pm, br_tt, br_ff, br_ltT, br_ltF, br_leT, br_leF, br_eqT, br_eqF, br_eqs, br_eqm, br_eqm', br_ltm, br_mlt, br_lem, br_mle, br_oiF, br_lgge, br_lgle, br_lggt, br_lglt, br_lgeq, br_zb, br_zb1, bV_s, bI_s, bL_s, zo_n, zo_s, and_self]
    · intro q hq
      have := b5 q (by omega)
      rw [this.1, this.2.1, this.2.2]; simp (disch := omega) only [w_ne, w_at, wl_ne, wl_at, wc_ne, wc_at, upd_at, upd_ne, upl_at, upl_ne, cpy_in0, zn_cl, zn_add, zn_mul, zn_sub, zn_pm, br_tt, br_ff, br_ltT, br_ltF, br_leT, br_leF, br_eqT, br_eqF, br_eqs, br_eqm, br_eqm', br_ltm, br_mlt, br_lem, br_mle, br_oiF, br_lgge, br_lgle, br_lggt, br_lglt, br_lgeq, br_zb, br_zb1, bV_s, bI_s, bL_s, zo_n, zo_s, and_self]
    · intro q hq; rw [b6 q hq]; simp (disch := omega) only [w_ne, w_at, wl_ne, wl_at, wc_ne, wc_at, upd_at, upd_ne, upl_at, upl_ne, cpy_in0, zn_cl, zn_add, zn_mul, zn_sub, zn_pm, br_tt, br_ff, br_ltT, br_ltF, br_leT, br_leF, br_eqT, br_eqF, br_eqs, br_eqm, br_eqm', br_ltm, br_mlt, br_lem, br_mle, br_oiF, br_lgge, br_lgle, br_lggt, br_lglt, br_lgeq, br_zb, br_zb1, bV_s, bI_s, bL_s, zo_n, zo_s]
    · intro q hq; rw [b7 q hq]; simp (disch := omega) only [w_ne, w_at, wl_ne, wl_at, wc_ne, wc_at, upd_at, upd_ne, upl_at, upl_ne, cpy_in0, zn_cl, zn_add, zn_mul, zn_sub, zn_pm, br_tt, br_ff, br_ltT, br_ltF, br_leT, br_leF, br_eqT, br_eqF, br_eqs, br_eqm, br_eqm', br_ltm, br_mlt, br_lem, br_mle, br_oiF, br_lgge, br_lgle, br_lggt, br_lglt, br_lgeq, br_zb, br_zb1, bV_s, bI_s, bL_s, zo_n, zo_s]
theorem s_layText {T G F : Td} (W : tW T) {d : Nat} {m : am_M} (c : tR T G F m) :
    ∃ m', am_c (d + 2) y_M_layTextTried [.ref 107] m = some (none, m') ∧ fl T (List.range (T 0 1)) m' ∧ rn 1 T (List.range (T 0 1)) (T 9) (mt0 T) h0 [] 0 m' ∧ fqT m m' := by
  have h5 := W.n; have h6 := W.L; have h7 := W.mn
  obtain ⟨f1, m1, a1, a0, a2, a3, a4, a5⟩ := lp_lt1 (d := d + 1) 10 0 29999 (am_w m.1 107 55 (m.1 107 14), m.2) (by omega) (by omega)
  have e1 : ∀ p, p ≠ 107 → p ≠ 138 → p ≠ 139 → m1.1 p = m.1 p := fun p p1 p2 p3 => by rw [a3 p p2 p3]; simp (disch := omega) only [w_ne, w_at, wl_ne, wl_at, wc_ne, wc_at, upd_at, upd_ne, upl_at, upl_ne, cpy_in0, zn_cl, zn_add, zn_mul, zn_sub, zn_pm, br_tt, br_ff, br_ltT, br_ltF, br_leT, br_leF, br_eqT, br_eqF, br_eqs, br_eqm, br_eqm', br_ltm, br_mlt, br_lem, br_mle, br_oiF, br_lgge, br_lgle, br_lggt, br_lglt, br_lgeq, br_zb, br_zb1, bV_s, bI_s, bL_s, zo_n, zo_s]
  have e17 : m1.1 107 = (am_w m.1 107 55 (m.1 107 14)) 107 := a3 107 (by omega) (by omega)
  obtain ⟨f2, m2, b1, b2, b3, b4, b5, b6, b7⟩ := lp_lt2 (d := d + 1) h5 5 0 f1 m1 (by omega) (by omega) (by rw [e17]; simp (disch := omega) only [w_ne, w_at, wl_ne, wl_at, wc_ne, wc_at, upd_at, upd_ne, upl_at, upl_ne, cpy_in0, zn_cl, zn_add, zn_mul, zn_sub, zn_pm, br_tt, br_ff, br_ltT, br_ltF, br_leT, br_leF, br_eqT, br_eqF, br_eqs, br_eqm, br_eqm', br_ltm, br_mlt, br_lem, br_mle, br_oiF, br_lgge, br_lgle, br_lggt, br_lglt, br_lgeq, br_zb, br_zb1, bV_s, bI_s, bL_s, zo_n, zo_s, c.n])
  have e2 : ∀ p, p ≠ 107 → p ≠ 132 → p ≠ 136 → p ≠ 137 → p ≠ 138 → p ≠ 139 → m2.1 p = m.1 p := fun p p1 p2 p3 p4 p5 p6 => by rw [b3 p p2 p3 p4, e1 p p1 p5 p6]
  have e27 : m2.1 107 = (am_w m.1 107 55 (m.1 107 14)) 107 := by rw [b3 107 (by omega) (by omega) (by omega), e17]
  have c2 : tR T G F (am_w (am_w m2.1 134 1 (zn 0)) 135 1 (zn 0), m2.2) := c.mono (fun p _ _ => by simp (disch := omega) only [w_ne, w_at, wl_ne, wl_at, wc_ne, wc_at, upd_at, upd_ne, upl_at, upl_ne, cpy_in0, zn_cl, zn_add, zn_mul, zn_sub, zn_pm, br_tt, br_ff, br_ltT, br_ltF, br_leT, br_leF, br_eqT, br_eqF, br_eqs, br_eqm, br_eqm', br_ltm, br_mlt, br_lem, br_mle, br_oiF, br_lgge, br_lgle, br_lggt, br_lglt, br_lgeq, br_zb, br_zb1, bV_s, bI_s, bL_s, zo_n, zo_s]; exact e2 p (by omega) (by omega) (by omega) (by omega) (by omega) (by omega)) (fun i _ _ => by simp (disch := omega) only [w_ne, w_at, wl_ne, wl_at, wc_ne, wc_at, upd_at, upd_ne, upl_at, upl_ne, cpy_in0, zn_cl, zn_add, zn_mul, zn_sub, zn_pm, br_tt, br_ff, br_ltT, br_ltF, br_leT, br_leF, br_eqT, br_eqF, br_eqs, br_eqm, br_eqm', br_ltm, br_mlt, br_lem, br_mle, br_oiF, br_lgge, br_lgle, br_lggt, br_lglt, br_lgeq, br_zb, br_zb1, bV_s, bI_s, bL_s, zo_n, zo_s, e27])
  obtain ⟨m3, d1, d2, d3⟩ := s_plainT (d := d) (ord := List.range (T 0 1)) c2 W (fun i hi => by simp (disch := omega) only [w_ne, w_at, wl_ne, wl_at, wc_ne, wc_at, upd_at, upd_ne, upl_at, upl_ne, cpy_in0, zn_cl, zn_add, zn_mul, zn_sub, zn_pm, br_tt, br_ff, br_ltT, br_ltF, br_leT, br_leF, br_eqT, br_eqF, br_eqs, br_eqm, br_eqm', br_ltm, br_mlt, br_lem, br_mle, br_oiF, br_lgge, br_lgle, br_lggt, br_lglt, br_lgeq, br_zb, br_zb1, bV_s, bI_s, bL_s, zo_n, zo_s, (b4 i (by omega) (by omega)).2.1, range_getD])
  have e3 : ∀ p, p ≠ 107 → p ≠ 132 → p ≠ 134 → p ≠ 135 → p ≠ 136 → p ≠ 137 → p ≠ 138 → p ≠ 139 → p ≠ 140 → m3.1 p = m.1 p := fun p p1 p2 p3 p4 p5 p6 p7 p8 p9 => by rw [d3.2.1 p p1 p6 p9]; simp (disch := omega) only [w_ne, w_at, wl_ne, wl_at, wc_ne, wc_at, upd_at, upd_ne, upl_at, upl_ne, cpy_in0, zn_cl, zn_add, zn_mul, zn_sub, zn_pm, br_tt, br_ff, br_ltT, br_ltF, br_leT, br_leF, br_eqT, br_eqF, br_eqs, br_eqm, br_eqm', br_ltm, br_mlt, br_lem, br_mle, br_oiF, br_lgge, br_lgle, br_lggt, br_lglt, br_lgeq, br_zb, br_zb1, bV_s, bI_s, bL_s, zo_n, zo_s]; exact e2 p p1 p2 p5 p6 p7 p8
  have g132 : m3.1 132 = m2.1 132 := by rw [d3.2.1 132 (by omega) (by omega) (by omega)]; simp (disch := omega) only [w_ne, w_at, wl_ne, wl_at, wc_ne, wc_at, upd_at, upd_ne, upl_at, upl_ne, cpy_in0, zn_cl, zn_add, zn_mul, zn_sub, zn_pm, br_tt, br_ff, br_ltT, br_ltF, br_leT, br_leF, br_eqT, br_eqF, br_eqs, br_eqm, br_eqm', br_ltm, br_mlt, br_lem, br_mle, br_oiF, br_lgge, br_lgle, br_lggt, br_lglt, br_lgeq, br_zb, br_zb1, bV_s, bI_s, bL_s, zo_n, zo_s]
  have g136 : m3.1 136 = m2.1 136 := by rw [d3.2.1 136 (by omega) (by omega) (by omega)]; simp (disch := omega) only [w_ne, w_at, wl_ne, wl_at, wc_ne, wc_at, upd_at, upd_ne, upl_at, upl_ne, cpy_in0, zn_cl, zn_add, zn_mul, zn_sub, zn_pm, br_tt, br_ff, br_ltT, br_ltF, br_leT, br_leF, br_eqT, br_eqF, br_eqs, br_eqm, br_eqm', br_ltm, br_mlt, br_lem, br_mle, br_oiF, br_lgge, br_lgle, br_lggt, br_lglt, br_lgeq, br_zb, br_zb1, bV_s, bI_s, bL_s, zo_n, zo_s]
  have g138 : m3.1 138 = m1.1 138 := by rw [d3.2.1 138 (by omega) (by omega) (by omega)]; simp (disch := omega) only [w_ne, w_at, wl_ne, wl_at, wc_ne, wc_at, upd_at, upd_ne, upl_at, upl_ne, cpy_in0, zn_cl, zn_add, zn_mul, zn_sub, zn_pm, br_tt, br_ff, br_ltT, br_ltF, br_leT, br_leF, br_eqT, br_eqF, br_eqs, br_eqm, br_eqm', br_ltm, br_mlt, br_lem, br_mle, br_oiF, br_lgge, br_lgle, br_lggt, br_lglt, br_lgeq, br_zb, br_zb1, bV_s, bI_s, bL_s, zo_n, zo_s]; exact b3 138 (by omega) (by omega) (by omega)
  have g139 : m3.1 139 = m1.1 139 := by rw [d3.2.1 139 (by omega) (by omega) (by omega)]; simp (disch := omega) only [w_ne, w_at, wl_ne, wl_at, wc_ne, wc_at, upd_at, upd_ne, upl_at, upl_ne, cpy_in0, zn_cl, zn_add, zn_mul, zn_sub, zn_pm, br_tt, br_ff, br_ltT, br_ltF, br_leT, br_leF, br_eqT, br_eqF, br_eqs, br_eqm, br_eqm', br_ltm, br_mlt, br_lem, br_mle, br_oiF, br_lgge, br_lgle, br_lggt, br_lglt, br_lgeq, br_zb, br_zb1, bV_s, bI_s, bL_s, zo_n, zo_s]; exact b3 139 (by omega) (by omega) (by omega)
  have g134 : ∀ i, m3.1 134 i = if i = 1 then zn 0 else m.1 134 i := fun i => by
    rw [d3.2.1 134 (by omega) (by omega) (by omega)]
    by_cases q : i = 1
    · subst q; rw [if_pos rfl]; simp (disch := omega) only [w_ne, w_at, wl_ne, wl_at, wc_ne, wc_at, upd_at, upd_ne, upl_at, upl_ne, cpy_in0, zn_cl, zn_add, zn_mul, zn_sub, zn_pm, br_tt, br_ff, br_ltT, br_ltF, br_leT, br_leF, br_eqT, br_eqF, br_eqs, br_eqm, br_eqm', br_ltm, br_mlt, br_lem, br_mle, br_oiF, br_lgge, br_lgle, br_lggt, br_lglt, br_lgeq, br_zb, br_zb1, bV_s, bI_s, bL_s, zo_n, zo_s]
    · rw [if_neg q]; simp (disch := omega) only [w_ne, w_at, wl_ne, wl_at, wc_ne, wc_at, upd_at, upd_ne, upl_at, upl_ne, cpy_in0, zn_cl, zn_add, zn_mul, zn_sub, zn_pm, br_tt, br_ff, br_ltT, br_ltF, br_leT, br_leF, br_eqT, br_eqF, br_eqs, br_eqm, br_eqm', br_ltm, br_mlt, br_lem, br_mle, br_oiF, br_lgge, br_lgle, br_lggt, br_lglt, br_lgeq, br_zb, br_zb1, bV_s, bI_s, bL_s, zo_n, zo_s]; rw [e2 134 (by omega) (by omega) (by omega) (by omega) (by omega) (by omega)]
  have g135 : ∀ i, m3.1 135 i = if i = 1 then zn 0 else m.1 135 i := fun i => by
    rw [d3.2.1 135 (by omega) (by omega) (by omega)]
    by_cases q : i = 1
    · subst q; rw [if_pos rfl]; simp (disch := omega) only [w_ne, w_at, wl_ne, wl_at, wc_ne, wc_at, upd_at, upd_ne, upl_at, upl_ne, cpy_in0, zn_cl, zn_add, zn_mul, zn_sub, zn_pm, br_tt, br_ff, br_ltT, br_ltF, br_leT, br_leF, br_eqT, br_eqF, br_eqs, br_eqm, br_eqm', br_ltm, br_mlt, br_lem, br_mle, br_oiF, br_lgge, br_lgle, br_lggt, br_lglt, br_lgeq, br_zb, br_zb1, bV_s, bI_s, bL_s, zo_n, zo_s]
    · rw [if_neg q]; simp (disch := omega) only [w_ne, w_at, wl_ne, wl_at, wc_ne, wc_at, upd_at, upd_ne, upl_at, upl_ne, cpy_in0, zn_cl, zn_add, zn_mul, zn_sub, zn_pm, br_tt, br_ff, br_ltT, br_ltF, br_leT, br_leF, br_eqT, br_eqF, br_eqs, br_eqm, br_eqm', br_ltm, br_mlt, br_lem, br_mle, br_oiF, br_lgge, br_lgle, br_lggt, br_lglt, br_lgeq, br_zb, br_zb1, bV_s, bI_s, bL_s, zo_n, zo_s]; rw [e2 135 (by omega) (by omega) (by omega) (by omega) (by omega) (by omega)]
  have g107 : ∀ i, i < 59 ∨ 66 < i → m3.1 107 i = if i = 55 then m.1 107 14 else m.1 107 i := fun i hi => by
    rw [d3.2.2.1 i hi]
    by_cases q : i = 55
    · subst q; rw [if_pos rfl]; simp (disch := omega) only [w_ne, w_at, wl_ne, wl_at, wc_ne, wc_at, upd_at, upd_ne, upl_at, upl_ne, cpy_in0, zn_cl, zn_add, zn_mul, zn_sub, zn_pm, br_tt, br_ff, br_ltT, br_ltF, br_leT, br_leF, br_eqT, br_eqF, br_eqs, br_eqm, br_eqm', br_ltm, br_mlt, br_lem, br_mle, br_oiF, br_lgge, br_lgle, br_lggt, br_lglt, br_lgeq, br_zb, br_zb1, bV_s, bI_s, bL_s, zo_n, zo_s, e27]
    · rw [if_neg q]; simp (disch := omega) only [w_ne, w_at, wl_ne, wl_at, wc_ne, wc_at, upd_at, upd_ne, upl_at, upl_ne, cpy_in0, zn_cl, zn_add, zn_mul, zn_sub, zn_pm, br_tt, br_ff, br_ltT, br_ltF, br_leT, br_leF, br_eqT, br_eqF, br_eqs, br_eqm, br_eqm', br_ltm, br_mlt, br_lem, br_mle, br_oiF, br_lgge, br_lgle, br_lggt, br_lglt, br_lgeq, br_zb, br_zb1, bV_s, bI_s, bL_s, zo_n, zo_s, e27]
  refine ⟨m3, ?_, d2, ⟨?_, ?_, ?_, ?_, ⟨List.range (T 0 1), none, List.length_range, ?_, d2.lo, (by intro a h; cases h), ?_, ?_⟩, ?_, Or.inl ⟨d2.nm, ?_, ?_⟩, ?_⟩, ⟨?_, ?_, ?_, ?_, ?_, ?_, ?_, ?_, ?_, ?_⟩⟩
  · rw [n_M_layTextTried, a1, b1, e_M_layTextTried_48, br_leT (by omega) (by omega), d1, bV_s]
  · intro i hi; rw [g132, Nat.mul_one, (b4 i (by omega) (by omega)).2.2, if_pos hi]; rfl
  · rw [g134, if_pos rfl]; rfl
  · intro i hi; exact absurd hi (by simp)
  · rw [g135, if_pos rfl]
  · intro i hi; rw [Nat.mul_one]; exact d2.os i hi
  · intro l hl; have := List.mem_range.mp hl; omega
  · rw [List.filter_eq_self.mpr]; intro a _; simp
  · intro l hl; exact Or.inr ⟨by rw [d2.lm]; exact zn_zm (by omega), by rw [g136, (b4 l (by omega) (by omega)).1, e1 118 (by omega) (by omega) (by omega)]; exact c.hu l hl⟩
  · rw [g107 55 (by omega), if_pos rfl, c.mn, mt0_len]
  · intro i hi
    rw [mt0_len] at hi
    rw [g138, g139, (a4 i (by omega) (by omega)).1, (a4 i (by omega) (by omega)).2, mt0_at hi]
    simp (disch := omega) only [w_ne, w_at, wl_ne, wl_at, wc_ne, wc_at, upd_at, upd_ne, upl_at, upl_ne, cpy_in0, zn_cl, zn_add, zn_mul, zn_sub, zn_pm, br_tt, br_ff, br_ltT, br_ltF, br_leT, br_leF, br_eqT, br_eqF, br_eqs, br_eqm, br_eqm', br_ltm, br_mlt, br_lem, br_mle, br_oiF, br_lgge, br_lgle, br_lggt, br_lglt, br_lgeq, br_zb, br_zb1, bV_s, bI_s, bL_s, zo_n, zo_s]; exact c.ms i hi
  · intro i q1 q2; rw [g132, Nat.mul_one, (b4 i (by omega) q2).2.2, if_neg (by omega)]
  · intro p hp; exact e3 p (by omega) (by omega) (by omega) (by omega) (by omega) (by omega) (by omega) (by omega) (by omega)
  · intro i hi
    rw [g132, e3 133 (by omega) (by omega) (by omega) (by omega) (by omega) (by omega) (by omega) (by omega) (by omega), b6 i hi, e1 132 (by omega) (by omega) (by omega)]; exact ⟨rfl, rfl⟩
  · rw [g134, if_neg (by omega)]
  · rw [g135, if_neg (by omega)]
  · intro i hi; rw [g136, b7 i hi, e1 136 (by omega) (by omega) (by omega)]
  · intro i hi; rw [g138, g139, (a5 i (by omega)).1, (a5 i (by omega)).2]; simp (disch := omega) only [w_ne, w_at, wl_ne, wl_at, wc_ne, wc_at, upd_at, upd_ne, upl_at, upl_ne, cpy_in0, zn_cl, zn_add, zn_mul, zn_sub, zn_pm, br_tt, br_ff, br_ltT, br_ltF, br_leT, br_leF, br_eqT, br_eqF, br_eqs, br_eqm, br_eqm', br_ltm, br_mlt, br_lem, br_mle, br_oiF, br_lgge, br_lgle, br_lggt, br_lglt, br_lgeq, br_zb, br_zb1, bV_s, bI_s, bL_s, zo_n, zo_s, and_self]
  · intro i hi; rw [g107 i (by omega), if_neg (by omega)]
  · intro p _; rw [d3.1]; show m2.2 p = _; rw [b2, a2]
  · rw [d3.1]; show m2.2 107 58 = _; rw [b2, a2]
  · rw [d3.1]; show m2.2 107 92 = _; rw [b2, a2]
/-- what is kept is as it is -/
def kpt (m : am_M) : Prop :=
  (m.1 150 30 = m.1 107 55)
  ∧ (∀ k, k < 10 → m.1 150 k = m.1 138 k ∧ m.1 150 (10 + k) = m.1 139 k)
  ∧ (∀ k, k < 5 → m.1 150 (20 + k) = m.1 136 k ∧ m.1 150 (25 + k) = m.1 137 k)
theorem kpt.n {m : am_M} (hZ : kpt m) : m.1 150 30 = m.1 107 55 := hZ.1
theorem kpt.a {m : am_M} (hZ : kpt m) : ∀ k, k < 10 → m.1 150 k = m.1 138 k ∧ m.1 150 (10 + k) = m.1 139 k := hZ.2.1
theorem kpt.b {m : am_M} (hZ : kpt m) : ∀ k, k < 5 → m.1 150 (20 + k) = m.1 136 k ∧ m.1 150 (25 + k) = m.1 137 k := hZ.2.2
theorem lp_keeps {d : Nat} (r : Nat) : ∀ (i f : Nat) (m : am_M), i + r = 10 → r < f →
    ∃ m', r_M_keepsAll_13 d f (zn i) m = some (none, m') ∧ m'.2 = m.2 ∧ (∀ c, c ≠ 150 → m'.1 c = m.1 c) ∧ m'.1 150 30 = m.1 150 30 ∧ (∀ q, i ≤ q → q < 10 → m'.1 150 q = m.1 138 q ∧ m'.1 150 (10 + q) = m.1 139 q ∧ m'.1 150 (20 + q) = if q < 5 then m.1 136 q else m.1 137 (q - 5)) ∧ ∀ q, q < i → m'.1 150 q = m.1 150 q ∧ m'.1 150 (10 + q) = m.1 150 (10 + q) ∧ m'.1 150 (20 + q) = m.1 150 (20 + q) := by
  induction r with
  | zero =>
    intro i f m h1 h2
    obtain ⟨f, rfl⟩ : ∃ g, f = g + 1 := ⟨f - 1, by omega⟩
    refine ⟨m, ?_, rfl, fun _ _ => rfl, rfl, fun q _ _ => by omega, fun _ _ => ⟨rfl, rfl, rfl⟩⟩
    rw [e_M_keepsAll_13, br_leT (by omega) (by omega)]
  | succ r ih =>
    intro i f m h1 h2
    obtain ⟨f, rfl⟩ : ∃ g, f = g + 1 := ⟨f - 1, by omega⟩
    obtain ⟨x, hx⟩ : ∃ x, x = (if i < 5 then m.1 136 i else m.1 137 (i - 5)) := ⟨_, rfl⟩
    obtain ⟨m1, b1, b2, b3, b4, b5, b6⟩ := ih (i + 1) f (am_w (am_w (am_w m.1 150 i (m.1 138 i)) 150 (10 + i) (m.1 139 i)) 150 (20 + i) x, m.2) (by omega) (by omega)
    refine ⟨m1, ?_, b2, ?_, ?_, ?_, ?_⟩
    · rw [← b1, e_M_keepsAll_13]
      by_cases g : i < 5
      · rw [if_pos g] at hx; subst hx; simp (disch := omega) only [w_ne, w_at, wl_ne, wl_at, wc_ne, wc_at, upd_at, upd_ne, upl_at, upl_ne, cpy_in0, zn_cl, zn_add, zn_mul, zn_sub, zn_pm, br_tt, br_ff, br_ltT, br_ltF, br_leT, br_leF, br_eqT, br_eqF, br_eqs, br_eqm, br_eqm', br_ltm, br_mlt, br_lem, br_mle, br_oiF, br_lgge, br_lgle, br_lggt, br_lglt, br_lgeq, br_zb, br_zb1, bV_s, bI_s, bL_s, zo_n, zo_s]
      · rw [if_neg g] at hx; subst hx; simp (disch := omega) only [w_ne, w_at, wl_ne, wl_at, wc_ne, wc_at, upd_at, upd_ne, upl_at, upl_ne, cpy_in0, zn_cl, zn_add, zn_mul, zn_sub, zn_pm, br_tt, br_ff, br_ltT, br_ltF, br_leT, br_leF, br_eqT, br_eqF, br_eqs, br_eqm, br_eqm', br_ltm, br_mlt, br_lem, br_mle, br_oiF, br_lgge, br_lgle, br_lggt, br_lglt, br_lgeq, br_zb, br_zb1, bV_s, bI_s, bL_s, zo_n, zo_s]
    · intro c hc; rw [b3 c hc]; simp (disch := omega) only [w_ne, w_at, wl_ne, wl_at, wc_ne, wc_at, upd_at, upd_ne, upl_at, upl_ne, cpy_in0, zn_cl, zn_add, zn_mul, zn_sub, zn_pm, br_tt, br_ff, br_ltT, br_ltF, br_leT, br_leF, br_eqT, br_eqF, br_eqs, br_eqm, br_eqm', br_ltm, br_mlt, br_lem, br_mle, br_oiF, br_lgge, br_lgle, br_lggt, br_lglt, br_lgeq, br_zb, br_zb1, bV_s, bI_s, bL_s, zo_n, zo_s]
    · rw [b4]; simp (disch := omega) only [w_ne, w_at, wl_ne, wl_at, wc_ne, wc_at, upd_at, upd_ne, upl_at, upl_ne, cpy_in0, zn_cl, zn_add, zn_mul, zn_sub, zn_pm, br_tt, br_ff, br_ltT, br_ltF, br_leT, br_leF, br_eqT, br_eqF, br_eqs, br_eqm, br_eqm', br_ltm, br_mlt, br_lem, br_mle, br_oiF, br_lgge, br_lgle, br_lggt, br_lglt, br_lgeq, br_zb, br_zb1, bV_s, bI_s, bL_s, zo_n, zo_s]
    · intro q h4 h5
      by_cases e : q = i
      · subst e
        have := b6 q (by omega)
        rw [this.1, this.2.1, this.2.2, ← hx]; simp (disch := omega) only [w_ne, w_at, wl_ne, wl_at, wc_ne, wc_at, upd_at, upd_ne, upl_at, upl_ne, cpy_in0, zn_cl, zn_add, zn_mul, zn_sub, zn_pm, br_tt, br_ff, br_ltT, br_ltF, br_leT, br_leF, br_eqT, br_eqF, br_eqs, br_eqm, br_eqm', br_ltm, br_mlt, br_lem, br_mle, br_oiF, br_lgge, br_lgle, br_lggt, br_lglt, br_lgeq, br_zb, br_zb1, bV_s, bI_s, bL_s, zo_n, zo_s, and_self]
      · have := b5 q (by omega) h5
        rw [this.1, this.2.1, this.2.2]; simp (disch := omega) only [w_ne, w_at, wl_ne, wl_at, wc_ne, wc_at, upd_at, upd_ne, upl_at, upl_ne, cpy_in0, zn_cl, zn_add, zn_mul, zn_sub, zn_pm, br_tt, br_ff, br_ltT, br_ltF, br_leT, br_leF, br_eqT, br_eqF, br_eqs, br_eqm, br_eqm', br_ltm, br_mlt, br_lem, br_mle, br_oiF, br_lgge, br_lgle, br_lggt, br_lglt, br_lgeq, br_zb, br_zb1, bV_s, bI_s, bL_s, zo_n, zo_s, and_self]
    · intro q hq
      have := b6 q (by omega)
      rw [this.1, this.2.1, this.2.2]; simp (disch := omega) only [w_ne, w_at, wl_ne, wl_at, wc_ne, wc_at, upd_at, upd_ne, upl_at, upl_ne, cpy_in0, zn_cl, zn_add, zn_mul, zn_sub, zn_pm, br_tt, br_ff, br_ltT, br_ltF, br_leT, br_leF, br_eqT, br_eqF, br_eqs, br_eqm, br_eqm', br_ltm, br_mlt, br_lem, br_mle, br_oiF, br_lgge, br_lgle, br_lggt, br_lglt, br_lgeq, br_zb, br_zb1, bV_s, bI_s, bL_s, zo_n, zo_s, and_self]
theorem s_keeps {d : Nat} {m : am_M} : ∃ m', am_c (d + 1) y_M_keepsAll [.ref 107] m = some (none, m') ∧ kpt m' ∧ m'.2 = m.2 ∧ ∀ c, c ≠ 150 → m'.1 c = m.1 c := by
  obtain ⟨m1, b1, b2, b3, b4, b5, b6⟩ := lp_keeps (d := d) 10 0 29999 (am_w m.1 150 30 (m.1 107 55), m.2) (by omega) (by omega)
  have e : ∀ c, c ≠ 150 → m1.1 c = m.1 c := fun c hc => by rw [b3 c hc]; simp (disch := omega) only [w_ne, w_at, wl_ne, wl_at, wc_ne, wc_at, upd_at, upd_ne, upl_at, upl_ne, cpy_in0, zn_cl, zn_add, zn_mul, zn_sub, zn_pm, br_tt, br_ff, br_ltT, br_ltF, br_leT, br_leF, br_eqT, br_eqF, br_eqs, br_eqm, br_eqm', br_ltm, br_mlt, br_lem, br_mle, br_oiF, br_lgge, br_lgle, br_lggt, br_lglt, br_lgeq, br_zb, br_zb1, bV_s, bI_s, bL_s, zo_n, zo_s]
  refine ⟨m1, by rw [n_M_keepsAll, b1], ⟨?_, ?_, ?_⟩, b2, e⟩
  · rw [b4, e 107 (by omega)]; simp (disch := omega) only [w_ne, w_at, wl_ne, wl_at, wc_ne, wc_at, upd_at, upd_ne, upl_at, upl_ne, cpy_in0, zn_cl, zn_add, zn_mul, zn_sub, zn_pm, br_tt, br_ff, br_ltT, br_ltF, br_leT, br_leF, br_eqT, br_eqF, br_eqs, br_eqm, br_eqm', br_ltm, br_mlt, br_lem, br_mle, br_oiF, br_lgge, br_lgle, br_lggt, br_lglt, br_lgeq, br_zb, br_zb1, bV_s, bI_s, bL_s, zo_n, zo_s]
  · intro k hk
    have := b5 k (by omega) hk
    rw [this.1, this.2.1, e 138 (by omega), e 139 (by omega)]; simp (disch := omega) only [w_ne, w_at, wl_ne, wl_at, wc_ne, wc_at, upd_at, upd_ne, upl_at, upl_ne, cpy_in0, zn_cl, zn_add, zn_mul, zn_sub, zn_pm, br_tt, br_ff, br_ltT, br_ltF, br_leT, br_leF, br_eqT, br_eqF, br_eqs, br_eqm, br_eqm', br_ltm, br_mlt, br_lem, br_mle, br_oiF, br_lgge, br_lgle, br_lggt, br_lglt, br_lgeq, br_zb, br_zb1, bV_s, bI_s, bL_s, zo_n, zo_s, and_self]
  · intro k hk
    have h1 := (b5 k (by omega) (by omega)).2.2
    have h2 := (b5 (5 + k) (by omega) (by omega)).2.2
    rw [if_pos hk] at h1
    rw [if_neg (by omega), show 5 + k - 5 = k from by omega, show 20 + (5 + k) = 25 + k from by omega] at h2
    rw [h1, h2, e 136 (by omega), e 137 (by omega)]; simp (disch := omega) only [w_ne, w_at, wl_ne, wl_at, wc_ne, wc_at, upd_at, upd_ne, upl_at, upl_ne, cpy_in0, zn_cl, zn_add, zn_mul, zn_sub, zn_pm, br_tt, br_ff, br_ltT, br_ltF, br_leT, br_leF, br_eqT, br_eqF, br_eqs, br_eqm, br_eqm', br_ltm, br_mlt, br_lem, br_mle, br_oiF, br_lgge, br_lgle, br_lggt, br_lglt, br_lgeq, br_zb, br_zb1, bV_s, bI_s, bL_s, zo_n, zo_s, and_self]
theorem lp_takes {d : Nat} (r : Nat) : ∀ (i f : Nat) (m : am_M), i + r = 10 → r < f →
    ∃ m', r_M_takesAll_13 d f (zn i) m = some (none, m') ∧ m'.2 = m.2 ∧ (∀ c, c ≠ 136 → c ≠ 137 → c ≠ 138 → c ≠ 139 → m'.1 c = m.1 c) ∧ (∀ q, i ≤ q → q < 10 → m'.1 138 q = m.1 150 q ∧ m'.1 139 q = m.1 150 (10 + q)) ∧ (∀ q, i ≤ q → q < 5 → m'.1 136 q = m.1 150 (20 + q) ∧ m'.1 137 q = m.1 150 (25 + q)) ∧ (∀ q, q < i ∨ 10 ≤ q → m'.1 138 q = m.1 138 q ∧ m'.1 139 q = m.1 139 q) ∧ ∀ q, q < i ∨ 5 ≤ q → m'.1 136 q = m.1 136 q ∧ m'.1 137 q = m.1 137 q := by
  induction r with
  | zero =>
    intro i f m h1 h2
    obtain ⟨f, rfl⟩ : ∃ g, f = g + 1 := ⟨f - 1, by omega⟩
    refine ⟨m, ?_, rfl, fun _ _ _ _ _ => rfl, fun q _ _ => by omega, fun q _ _ => by omega, fun _ _ => ⟨rfl, rfl⟩, fun _ _ => ⟨rfl, rfl⟩⟩
    rw [e_M_takesAll_13, br_leT (by omega) (by omega)]
  | succ r ih =>
    intro i f m h1 h2
    obtain ⟨f, rfl⟩ : ∃ g, f = g + 1 := ⟨f - 1, by omega⟩
    by_cases g : i < 5
    · obtain ⟨m1, b1, b2, b3, b4, b5, b6, b7⟩ := ih (i + 1) f (am_w (am_w (am_w (am_w m.1 138 i (m.1 150 i)) 139 i (m.1 150 (10 + i))) 136 i (m.1 150 (20 + i))) 137 i (m.1 150 (25 + i)), m.2) (by omega) (by omega)
      refine ⟨m1, ?_, b2, ?_, ?_, ?_, ?_, ?_⟩
      · rw [← b1, e_M_takesAll_13]; simp (disch := omega) only [w_ne, w_at, wl_ne, wl_at, wc_ne, wc_at, upd_at, upd_ne, upl_at, upl_ne, cpy_in0, zn_cl, zn_add, zn_mul, zn_sub, zn_pm, br_tt, br_ff, br_ltT, br_ltF, br_leT, br_leF, br_eqT, br_eqF, br_eqs, br_eqm, br_eqm', br_ltm, br_mlt, br_lem, br_mle, br_oiF, br_lgge, br_lgle, br_lggt, br_lglt, br_lgeq, br_zb, br_zb1, bV_s, bI_s, bL_s, zo_n, zo_s]
      · intro c c1 c2 c3 c4; rw [b3 c c1 c2 c3 c4]; simp (disch := omega) only [w_ne, w_at, wl_ne, wl_at, wc_ne, wc_at, upd_at, upd_ne, upl_at, upl_ne, cpy_in0, zn_cl, zn_add, zn_mul, zn_sub, zn_pm, br_tt, br_ff, br_ltT, br_ltF, br_leT, br_leF, br_eqT, br_eqF, br_eqs, br_eqm, br_eqm', br_ltm, br_mlt, br_lem, br_mle, br_oiF, br_lgge, br_lgle, br_lggt, br_lglt, br_lgeq, br_zb, br_zb1, bV_s, bI_s, bL_s, zo_n, zo_s]
      · intro q h4 h5
        by_cases e : q = i
        · subst e; rw [(b6 q (by omega)).1, (b6 q (by omega)).2]; simp (disch := omega) only [w_ne, w_at, wl_ne, wl_at, wc_ne, wc_at, upd_at, upd_ne, upl_at, upl_ne, cpy_in0, zn_cl, zn_add, zn_mul, zn_sub, zn_pm, br_tt, br_ff, br_ltT, br_ltF, br_leT, br_leF, br_eqT, br_eqF, br_eqs, br_eqm, br_eqm', br_ltm, br_mlt, br_lem, br_mle, br_oiF, br_lgge, br_lgle, br_lggt, br_lglt, br_lgeq, br_zb, br_zb1, bV_s, bI_s, bL_s, zo_n, zo_s, and_self]
        · rw [(b4 q (by omega) h5).1, (b4 q (by omega) h5).2]; simp (disch := omega) only [w_ne, w_at, wl_ne, wl_at, wc_ne, wc_at, upd_at, upd_ne, upl_at, upl_ne, cpy_in0, zn_cl, zn_add, zn_mul, zn_sub, zn_pm, br_tt, br_ff, br_ltT, br_ltF, br_leT, br_leF, br_eqT, br_eqF, br_eqs, br_eqm, br_eqm', br_ltm, br_mlt, br_lem, br_mle, br_oiF, br_lgge, br_lgle, br_lggt, br_lglt, br_lgeq, br_zb, br_zb1, bV_s, bI_s, bL_s, zo_n, zo_s, and_self]
      · intro q h4 h5
        by_cases e : q = i
        · subst e; rw [(b7 q (by omega)).1, (b7 q (by omega)).2]; simp (disch := omega) only [w_ne, w_at, wl_ne, wl_at, wc_ne, wc_at, upd_at, upd_ne, upl_at, upl_ne, cpy_in0, zn_cl, zn_add, zn_mul, zn_sub, zn_pm, br_tt, br_ff, br_ltT, br_ltF, br_leT, br_leF, br_eqT, br_eqF, br_eqs, br_eqm, br_eqm', br_ltm, br_mlt, br_lem, br_mle, br_oiF, br_lgge, br_lgle, br_lggt, br_lglt, br_lgeq, br_zb, br_zb1, bV_s, bI_s, bL_s, zo_n, zo_s, and_self]
        · rw [(b5 q (by omega) h5).1, (b5 q (by omega) h5).2]; simp (disch := omega) only [w_ne, w_at, wl_ne, wl_at, wc_ne, wc_at, upd_at, upd_ne, upl_at, upl_ne, cpy_in0, zn_cl, zn_add, zn_mul, zn_sub, zn_pm, br_tt, br_ff, br_ltT, br_ltF, br_leT, br_leF, br_eqT, br_eqF, br_eqs, br_eqm, br_eqm', br_ltm, br_mlt, br_lem, br_mle, br_oiF, br_lgge, br_lgle, br_lggt, br_lglt, br_lgeq, br_zb, br_zb1, bV_s, bI_s, bL_s, zo_n, zo_s, and_self]
      · intro q hq; rw [(b6 q (by omega)).1, (b6 q (by omega)).2]; simp (disch := omega) only [w_ne, w_at, wl_ne, wl_at, wc_ne, wc_at, upd_at, upd_ne, upl_at, upl_ne, cpy_in0, zn_cl, zn_add, zn_mul, zn_sub, zn_pm, br_tt, br_ff, br_ltT, br_ltF, br_leT, br_leF, br_eqT, br_eqF, br_eqs, br_eqm, br_eqm', br_ltm, br_mlt, br_lem, br_mle, br_oiF, br_lgge, br_lgle, br_lggt, br_lglt, br_lgeq, br_zb, br_zb1, bV_s, bI_s, bL_s, zo_n, zo_s, and_self]
      · intro q hq; rw [(b7 q (by omega)).1, (b7 q (by omega)).2]; simp (disch := omega) only [w_ne, w_at, wl_ne, wl_at, wc_ne, wc_at, upd_at, upd_ne, upl_at, upl_ne, cpy_in0, zn_cl, zn_add, zn_mul, zn_sub, zn_pm, br_tt, br_ff, br_ltT, br_ltF, br_leT, br_leF, br_eqT, br_eqF, br_eqs, br_eqm, br_eqm', br_ltm, br_mlt, br_lem, br_mle, br_oiF, br_lgge, br_lgle, br_lggt, br_lglt, br_lgeq, br_zb, br_zb1, bV_s, bI_s, bL_s, zo_n, zo_s, and_self]
    · obtain ⟨m1, b1, b2, b3, b4, b5, b6, b7⟩ := ih (i + 1) f (am_w (am_w m.1 138 i (m.1 150 i)) 139 i (m.1 150 (10 + i)), m.2) (by omega) (by omega)
      refine ⟨m1, ?_, b2, ?_, ?_, ?_, ?_, ?_⟩
      · rw [← b1, e_M_takesAll_13]; simp (disch := omega) only [w_ne, w_at, wl_ne, wl_at, wc_ne, wc_at, upd_at, upd_ne, upl_at, upl_ne, cpy_in0, zn_cl, zn_add, zn_mul, zn_sub, zn_pm, br_tt, br_ff, br_ltT, br_ltF, br_leT, br_leF, br_eqT, br_eqF, br_eqs, br_eqm, br_eqm', br_ltm, br_mlt, br_lem, br_mle, br_oiF, br_lgge, br_lgle, br_lggt, br_lglt, br_lgeq, br_zb, br_zb1, bV_s, bI_s, bL_s, zo_n, zo_s]
      · intro c c1 c2 c3 c4; rw [b3 c c1 c2 c3 c4]; simp (disch := omega) only [w_ne, w_at, wl_ne, wl_at, wc_ne, wc_at, upd_at, upd_ne, upl_at, upl_ne, cpy_in0, zn_cl, zn_add, zn_mul, zn_sub, zn_pm, br_tt, br_ff, br_ltT, br_ltF, br_leT, br_leF, br_eqT, br_eqF, br_eqs, br_eqm, br_eqm', br_ltm, br_mlt, br_lem, br_mle, br_oiF, br_lgge, br_lgle, br_lggt, br_lglt, br_lgeq, br_zb, br_zb1, bV_s, bI_s, bL_s, zo_n, zo_s]
      · intro q h4 h5
        by_cases e : q = i
        · subst e; rw [(b6 q (by omega)).1, (b6 q (by omega)).2]; simp (disch := omega) only [w_ne, w_at, wl_ne, wl_at, wc_ne, wc_at, upd_at, upd_ne, upl_at, upl_ne, cpy_in0, zn_cl, zn_add, zn_mul, zn_sub, zn_pm, br_tt, br_ff, br_ltT, br_ltF, br_leT, br_leF, br_eqT, br_eqF, br_eqs, br_eqm, br_eqm', br_ltm, br_mlt, br_lem, br_mle, br_oiF, br_lgge, br_lgle, br_lggt, br_lglt, br_lgeq, br_zb, br_zb1, bV_s, bI_s, bL_s, zo_n, zo_s, and_self]
        · rw [(b4 q (by omega) h5).1, (b4 q (by omega) h5).2]; simp (disch := omega) only [w_ne, w_at, wl_ne, wl_at, wc_ne, wc_at, upd_at, upd_ne, upl_at, upl_ne, cpy_in0, zn_cl, zn_add, zn_mul, zn_sub, zn_pm, br_tt, br_ff, br_ltT, br_ltF, br_leT, br_leF, br_eqT, br_eqF, br_eqs, br_eqm, br_eqm', br_ltm, br_mlt, br_lem, br_mle, br_oiF, br_lgge, br_lgle, br_lggt, br_lglt, br_lgeq, br_zb, br_zb1, bV_s, bI_s, bL_s, zo_n, zo_s, and_self]
      · intro q h4 h5; omega
      · intro q hq; rw [(b6 q (by omega)).1, (b6 q (by omega)).2]; simp (disch := omega) only [w_ne, w_at, wl_ne, wl_at, wc_ne, wc_at, upd_at, upd_ne, upl_at, upl_ne, cpy_in0, zn_cl, zn_add, zn_mul, zn_sub, zn_pm, br_tt, br_ff, br_ltT, br_ltF, br_leT, br_leF, br_eqT, br_eqF, br_eqs, br_eqm, br_eqm', br_ltm, br_mlt, br_lem, br_mle, br_oiF, br_lgge, br_lgle, br_lggt, br_lglt, br_lgeq, br_zb, br_zb1, bV_s, bI_s, bL_s, zo_n, zo_s, and_self]
      · intro q hq; rw [(b7 q (by omega)).1, (b7 q (by omega)).2]; simp (disch := omega) only [w_ne, w_at, wl_ne, wl_at, wc_ne, wc_at, upd_at, upd_ne, upl_at, upl_ne, cpy_in0, zn_cl, zn_add, zn_mul, zn_sub, zn_pm, br_tt, br_ff, br_ltT, br_ltF, br_leT, br_leF, br_eqT, br_eqF, br_eqs, br_eqm, br_eqm', br_ltm, br_mlt, br_lem, br_mle, br_oiF, br_lgge, br_lgle, br_lggt, br_lglt, br_lgeq, br_zb, br_zb1, bV_s, bI_s, bL_s, zo_n, zo_s, and_self]
theorem s_takes {d : Nat} {m0 m : am_M} (k : kpt m0) (f : fqT m0 m) : ∃ m', am_c (d + 1) y_M_takesAll [.ref 107] m = some (none, m') ∧ fqR m0 m' := by
  obtain ⟨m1, b1, b2, b3, b4, b5, b6, b7⟩ := lp_takes (d := d) 10 0 29999 (am_w m.1 107 55 (m.1 150 30), m.2) (by omega) (by omega)
  have e : ∀ c, c ≠ 107 → c ≠ 136 → c ≠ 137 → c ≠ 138 → c ≠ 139 → m1.1 c = m.1 c := fun c c0 c1 c2 c3 c4 => by rw [b3 c c1 c2 c3 c4]; simp (disch := omega) only [w_ne, w_at, wl_ne, wl_at, wc_ne, wc_at, upd_at, upd_ne, upl_at, upl_ne, cpy_in0, zn_cl, zn_add, zn_mul, zn_sub, zn_pm, br_tt, br_ff, br_ltT, br_ltF, br_leT, br_leF, br_eqT, br_eqF, br_eqs, br_eqm, br_eqm', br_ltm, br_mlt, br_lem, br_mle, br_oiF, br_lgge, br_lgle, br_lggt, br_lglt, br_lgeq, br_zb, br_zb1, bV_s, bI_s, bL_s, zo_n, zo_s]
  have e107 : ∀ i, m1.1 107 i = if i = 55 then m.1 150 30 else m.1 107 i := fun i => by
    rw [b3 107 (by omega) (by omega) (by omega) (by omega)]
    by_cases q : i = 55
    · subst q; rw [if_pos rfl]; simp (disch := omega) only [w_ne, w_at, wl_ne, wl_at, wc_ne, wc_at, upd_at, upd_ne, upl_at, upl_ne, cpy_in0, zn_cl, zn_add, zn_mul, zn_sub, zn_pm, br_tt, br_ff, br_ltT, br_ltF, br_leT, br_leF, br_eqT, br_eqF, br_eqs, br_eqm, br_eqm', br_ltm, br_mlt, br_lem, br_mle, br_oiF, br_lgge, br_lgle, br_lggt, br_lglt, br_lgeq, br_zb, br_zb1, bV_s, bI_s, bL_s, zo_n, zo_s]
    · rw [if_neg q]; simp (disch := omega) only [w_ne, w_at, wl_ne, wl_at, wc_ne, wc_at, upd_at, upd_ne, upl_at, upl_ne, cpy_in0, zn_cl, zn_add, zn_mul, zn_sub, zn_pm, br_tt, br_ff, br_ltT, br_ltF, br_leT, br_leF, br_eqT, br_eqF, br_eqs, br_eqm, br_eqm', br_ltm, br_mlt, br_lem, br_mle, br_oiF, br_lgge, br_lgle, br_lggt, br_lglt, br_lgeq, br_zb, br_zb1, bV_s, bI_s, bL_s, zo_n, zo_s]
  have e150 : m.1 150 = m0.1 150 := f.c 150 (by omega)
  have w150 : ((am_w m.1 107 55 (m.1 150 30), m.2) : am_M).1 150 = m0.1 150 := by simp (disch := omega) only [w_ne, w_at, wl_ne, wl_at, wc_ne, wc_at, upd_at, upd_ne, upl_at, upl_ne, cpy_in0, zn_cl, zn_add, zn_mul, zn_sub, zn_pm, br_tt, br_ff, br_ltT, br_ltF, br_leT, br_leF, br_eqT, br_eqF, br_eqs, br_eqm, br_eqm', br_ltm, br_mlt, br_lem, br_mle, br_oiF, br_lgge, br_lgle, br_lggt, br_lglt, br_lgeq, br_zb, br_zb1, bV_s, bI_s, bL_s, zo_n, zo_s]; exact e150
  refine ⟨m1, by rw [n_M_takesAll, b1], ⟨?_, ?_, ?_, ?_, ?_, ?_, ?_, ?_⟩⟩
  · intro c hc
    by_cases c6 : c = 136
    · subst c6
      funext i
      by_cases q : i < 5
      · rw [(b5 i (by omega) q).1, w150, (k.b i q).1]
      · rw [(b7 i (by omega)).1]; simp (disch := omega) only [w_ne, w_at, wl_ne, wl_at, wc_ne, wc_at, upd_at, upd_ne, upl_at, upl_ne, cpy_in0, zn_cl, zn_add, zn_mul, zn_sub, zn_pm, br_tt, br_ff, br_ltT, br_ltF, br_leT, br_leF, br_eqT, br_eqF, br_eqs, br_eqm, br_eqm', br_ltm, br_mlt, br_lem, br_mle, br_oiF, br_lgge, br_lgle, br_lggt, br_lglt, br_lgeq, br_zb, br_zb1, bV_s, bI_s, bL_s, zo_n, zo_s]; exact f.u i (by omega)
    · by_cases c8 : c = 138
      · subst c8
        funext i
        by_cases q : i < 10
        · rw [(b4 i (by omega) q).1, w150, (k.a i q).1]
        · rw [(b6 i (by omega)).1]; simp (disch := omega) only [w_ne, w_at, wl_ne, wl_at, wc_ne, wc_at, upd_at, upd_ne, upl_at, upl_ne, cpy_in0, zn_cl, zn_add, zn_mul, zn_sub, zn_pm, br_tt, br_ff, br_ltT, br_ltF, br_leT, br_leF, br_eqT, br_eqF, br_eqs, br_eqm, br_eqm', br_ltm, br_mlt, br_lem, br_mle, br_oiF, br_lgge, br_lgle, br_lggt, br_lglt, br_lgeq, br_zb, br_zb1, bV_s, bI_s, bL_s, zo_n, zo_s]; exact (f.t i (by omega)).1
      · by_cases c9 : c = 139
        · subst c9
          funext i
          by_cases q : i < 10
          · rw [(b4 i (by omega) q).2, w150, (k.a i q).2]
          · rw [(b6 i (by omega)).2]; simp (disch := omega) only [w_ne, w_at, wl_ne, wl_at, wc_ne, wc_at, upd_at, upd_ne, upl_at, upl_ne, cpy_in0, zn_cl, zn_add, zn_mul, zn_sub, zn_pm, br_tt, br_ff, br_ltT, br_ltF, br_leT, br_leF, br_eqT, br_eqF, br_eqs, br_eqm, br_eqm', br_ltm, br_mlt, br_lem, br_mle, br_oiF, br_lgge, br_lgle, br_lggt, br_lglt, br_lgeq, br_zb, br_zb1, bV_s, bI_s, bL_s, zo_n, zo_s]; exact (f.t i (by omega)).2
        · rw [e c (by omega) (by omega) (by omega) (by omega) (by omega)]; exact f.c c (by omega)
  · intro i hi
    rw [e 132 (by omega) (by omega) (by omega) (by omega) (by omega), e 133 (by omega) (by omega) (by omega) (by omega) (by omega), (b5 i (by omega) hi).2, w150, (k.b i hi).2]
    exact ⟨(f.s i hi).1, (f.s i hi).2, rfl⟩
  · rw [e 134 (by omega) (by omega) (by omega) (by omega) (by omega)]; exact f.w
  · rw [e 135 (by omega) (by omega) (by omega) (by omega) (by omega)]; exact f.d
  · intro i hi
    rw [e107]
    by_cases q : i = 55
    · subst q; rw [if_pos rfl, e150, k.n]
    · rw [if_neg q]; exact f.f i (by omega)
  · intro c hc; rw [b2]; exact f.l c hc
  · rw [b2]; exact f.r.1
  · rw [b2]; exact f.r.2
