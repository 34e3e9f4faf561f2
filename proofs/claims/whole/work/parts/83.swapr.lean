/-! the reference's swaps -/
def hn6 (v : Nat → Nat) : Nat → Nat
  | 0 => 0
  | i + 1 => 6 * hn6 v i + v i
def e6 (c : Nat) : Nat := hn6 (dg c) 5
theorem e6_x {c : Nat} : e6 c = 1296 * dg c 0 + 216 * dg c 1 + 36 * dg c 2 + 6 * dg c 3 + dg c 4 := by
  unfold e6; simp only [hn6]; omega
def d6 (c : Nat) : Prop := ∀ t, t < 5 → dg c t < 6
theorem e6_lt {c : Nat} (h : d6 c) : e6 c < 7776 := by
  have h0 := h 0 (by omega); have h1 := h 1 (by omega); have h2 := h 2 (by omega); have h3 := h 3 (by omega); have h4 := h 4 (by omega)
  rw [e6_x]; omega
theorem e6_dg {c t : Nat} (h : d6 c) (ht : t < 5) : e6 c / 6 ^ (4 - t) % 6 = dg c t := by
  have h0 := h 0 (by omega); have h1 := h 1 (by omega); have h2 := h 2 (by omega); have h3 := h 3 (by omega); have h4 := h 4 (by omega)
  rw [e6_x]
  rcases (by omega : t = 0 ∨ t = 1 ∨ t = 2 ∨ t = 3 ∨ t = 4) with e | e | e | e | e <;> subst e <;> simp only [Nat.reduceSub, Nat.reducePow] <;> omega
theorem e6_inj {c c' : Nat} (h : d6 c) (h' : d6 c') (hc : c < 32768) (hc' : c' < 32768) (e : e6 c = e6 c') : c = c' :=
  dg_ext hc hc' (fun t ht => by rw [← e6_dg h ht, ← e6_dg h' ht, e])
theorem d6_swn {c a b : Nat} (h : d6 c) (ha : a < 5) (hb : b < 5) (hab : a ≠ b) : d6 (swn c a b) := by
  intro t ht
  rw [dg_swn ha hb ht hab]
  split
  · exact h b hb
  · split
    · exact h a ha
    · exact h t ht
def vo : Option Nat → Nat
  | none => 0
  | some s => s + 1
theorem hv_in {n t : Nat} {h : Hs} (ht : t < n) : hv n h t = vo (h t) := by unfold hv; rw [if_pos ht]; cases h t <;> rfl
theorem hv_out {n t : Nat} {h : Hs} (ht : n ≤ t) : hv n h t = 0 := by unfold hv; rw [if_neg (by omega)]
theorem zo_2 {a : Nat} {o : Option Nat} : zn a + zo o + zn 1 = zn (a + vo o) := by
  cases o with
  | none =>
    have e : zm + zn 1 = zn 0 := by decide +kernel
    rw [zo_n, Int32.add_assoc, e, zn_add]; rfl
  | some s => rw [zo_s, zn_add, zn_add, Nat.add_assoc]; rfl
theorem lp_row {n d : Nat} {h : Hs} {w : List Nat} {m : am_M} (hn : n ≤ 5) (I : hwI n h w) (hs : ∀ i, i < n → m.1 132 i = zo (h i)) (h5 : ∀ i, n ≤ i → i < 5 → m.1 132 i = zm) (r : Nat) : ∀ i f, i + r = 5 → r < f → r_M_rowNow_4 d f (zn (hn6 (hv n h) i)) (zn i) m = some (some (.int (zn (hn6 (hv n h) 5))), m) := by
  induction r with
  | zero =>
    intro i f h1 h2
    obtain ⟨f, rfl⟩ : ∃ g, f = g + 1 := ⟨f - 1, by omega⟩
    rw [e_M_rowNow_4, br_leT (by omega) (by omega), show i = 5 from by omega]
  | succ r ih =>
    intro i f h1 h2
    obtain ⟨f, rfl⟩ : ∃ g, f = g + 1 := ⟨f - 1, by omega⟩
    have e : (zn 6 * zn (hn6 (hv n h) i)) + m.1 132 i + zn 1 = zn (hn6 (hv n h) (i + 1)) := by
      rw [zn_mul, hn6]
      by_cases g : i < n
      · rw [hs i g, zo_2, hv_in g]
      · rw [h5 i (by omega) (by omega), ← zo_n, zo_2, hv_out (by omega)]; rfl
    rw [e_M_rowNow_4, br_leF (by omega) (by omega), br_oiF (by omega) (by omega), zn_cl (by omega), e, zn_add]
    exact ih (i + 1) f (by omega) (by omega)
theorem s_row {n d : Nat} {h : Hs} {w : List Nat} {m : am_M} (hn : n ≤ 5) (I : hwI n h w) (hs : ∀ i, i < n → m.1 132 i = zo (h i)) (h5 : ∀ i, n ≤ i → i < 5 → m.1 132 i = zm) : am_c (d + 1) y_M_rowNow [.ref 107] m = some (some (.int (zn (e6 (cod (hv n h))))), m) := by
  have v8 : ∀ t, t < 5 → hv n h t < 8 := fun t _ => by have := hv_lt hn I t; omega
  have e : e6 (cod (hv n h)) = hn6 (hv n h) 5 := by
    unfold e6
    simp only [hn6]
    rw [dg_cod v8 (by omega), dg_cod v8 (by omega), dg_cod v8 (by omega), dg_cod v8 (by omega), dg_cod v8 (by omega)]
  rw [n_M_rowNow, e]
  exact lp_row hn I hs h5 5 0 29999 (by omega) (by omega)
theorem pow6 : ∀ t, t < 5 → 6 ^ (4 - t) ≤ 1296 ∧ 0 < 6 ^ (4 - t) := by decide
theorem s_had {c t d : Nat} {m : am_M} (h : d6 c) (ht : t < 5) : am_c (d + 2) y_M_hadIn [.int (zn (e6 c)), .int (zn t)] m = some (some (.int (zp (dg c t))), m) := by
  have hp := pow6 t ht
  have hl := e6_lt h
  have hq : e6 c / 6 ^ (4 - t) ≤ e6 c := Nat.div_le_self _ _
  rw [n_M_hadIn, zn_sub (by omega), s_pow (by omega), bI_s, br_eq, if_neg (by intro q; have := (zn_inj (b := 0) (by omega) (by omega)).mp q; omega), zn_div (by omega) (by omega), zn_rem (by omega) (by omega), e6_dg h ht, zp_sub]
theorem zp_i {x : Nat} (h : x < 1000) : (zp x).toInt = (x : Int) - 1 := by
  cases x with
  | zero => exact zm_i
  | succ x => rw [zp, zn_i (by omega)]; omega
theorem sw_int {N M x y A B : Nat} (hN : N < 7776) (hM : M < 7776) (hx : x < 6) (hy : y < 6) (hA : A = 1296 ∨ A = 216 ∨ A = 36 ∨ A = 6 ∨ A = 1) (hB : B = 1296 ∨ B = 216 ∨ B = 36 ∨ B = 6 ∨ B = 1) (e : (M : Int) = N + ((y : Int) - x) * A + ((x : Int) - y) * B) : (zn N + (zp y - zp x) * zn A) + (zp x - zp y) * zn B = zn M := by
  have hx1 := zp_i (x := x) (by omega)
  have hy1 := zp_i (x := y) (by omega)
  have s1 : (zp y - zp x).toInt = (y : Int) - x := by
    rw [Int32.toInt_sub, hx1, hy1, Int.bmod_eq_of_le (by omega) (by omega)]; omega
  have s2 : (zp x - zp y).toInt = (x : Int) - y := by
    rw [Int32.toInt_sub, hx1, hy1, Int.bmod_eq_of_le (by omega) (by omega)]; omega
  have p1 : ((zp y - zp x) * zn A).toInt = ((y : Int) - x) * A ∧ -6480 ≤ ((y : Int) - x) * A ∧ ((y : Int) - x) * A ≤ 6480 := by
    rcases hA with rfl | rfl | rfl | rfl | rfl <;> exact ⟨by rw [Int32.toInt_mul, s1, zn_i (by omega), Int.bmod_eq_of_le (by omega) (by omega)], by omega, by omega⟩
  have p2 : ((zp x - zp y) * zn B).toInt = ((x : Int) - y) * B ∧ -6480 ≤ ((x : Int) - y) * B ∧ ((x : Int) - y) * B ≤ 6480 := by
    rcases hB with rfl | rfl | rfl | rfl | rfl <;> exact ⟨by rw [Int32.toInt_mul, s2, zn_i (by omega), Int.bmod_eq_of_le (by omega) (by omega)], by omega, by omega⟩
  generalize ((y : Int) - x) * A = P at p1 e
  generalize ((x : Int) - y) * B = Q at p2 e
  apply Int32.toInt_inj.mp
  have q1 : (zn N + (zp y - zp x) * zn A).toInt = N + P := by
    rw [Int32.toInt_add, p1.1, zn_i (by omega), Int.bmod_eq_of_le (by omega) (by omega)]
  rw [Int32.toInt_add, q1, p2.1, zn_i (by omega), Int.bmod_eq_of_le (by omega) (by omega)]
  omega
theorem p6 : ∀ t, t < 5 → (6 ^ (4 - t) = 1296 ∨ 6 ^ (4 - t) = 216 ∨ 6 ^ (4 - t) = 36 ∨ 6 ^ (4 - t) = 6 ∨ 6 ^ (4 - t) = 1) := by decide
theorem e6_swn {c a b : Nat} (ha : a < 5) (hb : b < 5) (hab : a < b) : (e6 (swn c a b) : Int) = e6 c + ((dg c b : Int) - dg c a) * (6 ^ (4 - a) : Nat) + ((dg c a : Int) - dg c b) * (6 ^ (4 - b) : Nat) := by
  have h0 : ∀ t, t < 5 → dg (swn c a b) t = if t = a then dg c b else if t = b then dg c a else dg c t := fun t ht => dg_swn ha hb ht (by omega)
  rw [e6_x, e6_x, h0 0 (by omega), h0 1 (by omega), h0 2 (by omega), h0 3 (by omega), h0 4 (by omega)]
  rcases (by omega : a = 0 ∨ a = 1 ∨ a = 2 ∨ a = 3) with e | e | e | e <;> subst e <;> rcases (by omega : b = 1 ∨ b = 2 ∨ b = 3 ∨ b = 4) with e | e | e | e <;> subst e <;> first | omega | (simp (decide := true) only [Nat.reduceSub, Nat.reducePow, if_true, if_false]; omega)
theorem s_swapR {c a b d : Nat} {m : am_M} (h : d6 c) (ha : a < 5) (hb : b < 5) (hab : a < b) : am_c (d + 3) y_M_swapped [.int (zn (e6 c)), .int (zn a), .int (zn b)] m = some (some (.int (zn (e6 (swn c a b)))), m) := by
  rw [n_M_swapped, s_had h ha, bI_s, s_had h hb, bI_s, zn_sub (by omega), zn_sub (by omega), s_pow (by omega), bI_s, s_pow (by omega), bI_s, sw_int (M := e6 (swn c a b)) (e6_lt h) (e6_lt (d6_swn h ha hb (by omega))) (h a ha) (h b hb) (p6 a ha) (p6 b hb) (e6_swn ha hb hab)]
theorem lp_home {c n d : Nat} {m : am_M} (hn : n ≤ 5) (h : d6 c) (h0 : m.1 107 12 = zn n) (r : Nat) : ∀ i f x3, i + r = n → r < f → r_M_isHome_2 (d + 2) f (zn (e6 c)) (zn i) x3 m = some (some (.int (zb (hmB c r i))), m) := by
  induction r with
  | zero =>
    intro i f x3 h1 h2
    obtain ⟨f, rfl⟩ : ∃ g, f = g + 1 := ⟨f - 1, by omega⟩
    rw [e_M_isHome_2, h0, br_leT (by omega) (by omega)]; rfl
  | succ r ih =>
    intro i f x3 h1 h2
    obtain ⟨f, rfl⟩ : ∃ g, f = g + 1 := ⟨f - 1, by omega⟩
    have hd := h i (by omega)
    rw [e_M_isHome_2, h0, br_leF (by omega) (by omega), s_had h (by omega), bI_s, hmB, zn_add]
    by_cases g : dg c i = 0
    · rw [g, zp, br_lt, zm_i, zn_i (by omega), if_pos (by omega), if_pos rfl]
      exact ih (i + 1) f _ (by omega) (by omega)
    · obtain ⟨x, hx⟩ : ∃ x, dg c i = x + 1 := ⟨dg c i - 1, by omega⟩
      rw [hx, zp, br_ltF (by omega) (by omega), if_neg (by omega)]
      by_cases g2 : x = i
      · rw [br_eqT g2, if_pos (by omega)]
        exact ih (i + 1) f _ (by omega) (by omega)
      · rw [br_eqF g2 (by omega) (by omega), if_neg (by omega)]; rfl
/-! the rows met -/
def mrw (c0 : Nat) (B : Bt) (c : Nat) : Bool := B.any (fun e => Nat.beq (e6 (st c0 e.1)) c)
def bR (c0 : Nat) (B : Bt) (m : am_M) : Prop :=
  (m.1 107 75 = zn B.length)
  ∧ (∀ i, i < B.length → m.1 143 i = zn (e6 (st c0 (bx B i))))
  ∧ (m.1 144 0 = zm)
  ∧ (∀ i, 0 < i → i < B.length → m.1 144 i = zn (bf B i) ∧ m.1 145 i = zn (bb B i))
  ∧ (∀ c, c < 7776 → m.1 146 c = zb (mrw c0 B c))
theorem bR.n {c0 : Nat} {B : Bt} {m : am_M} (hZ : bR c0 B m) : m.1 107 75 = zn B.length := hZ.1
theorem bR.s {c0 : Nat} {B : Bt} {m : am_M} (hZ : bR c0 B m) : ∀ i, i < B.length → m.1 143 i = zn (e6 (st c0 (bx B i))) := hZ.2.1
theorem bR.r {c0 : Nat} {B : Bt} {m : am_M} (hZ : bR c0 B m) : m.1 144 0 = zm := hZ.2.2.1
theorem bR.f {c0 : Nat} {B : Bt} {m : am_M} (hZ : bR c0 B m) : ∀ i, 0 < i → i < B.length → m.1 144 i = zn (bf B i) ∧ m.1 145 i = zn (bb B i) := hZ.2.2.2.1
theorem bR.m {c0 : Nat} {B : Bt} {m : am_M} (hZ : bR c0 B m) : ∀ c, c < 7776 → m.1 146 c = zb (mrw c0 B c) := hZ.2.2.2.2
def frs (m m' : am_M) : Prop := m'.2 = m.2 ∧ (∀ c, c ≠ 107 → c < 143 ∨ 147 < c → m'.1 c = m.1 c) ∧ ∀ i, i ≠ 75 → i ≠ 77 → m'.1 107 i = m.1 107 i
theorem frs_refl (m : am_M) : frs m m := ⟨rfl, fun _ _ _ => rfl, fun _ _ _ => rfl⟩
theorem frs_tr {m m1 m2 : am_M} (h : frs m m1) (g : frs m1 m2) : frs m m2 := ⟨g.1.trans h.1, fun c a e => (g.2.1 c a e).trans (h.2.1 c a e), fun i a e => (g.2.2 i a e).trans (h.2.2 i a e)⟩
theorem frs.q {m m' : am_M} (f : frs m m') : fqR m m' := ⟨fun c hc => f.2.1 c (by omega) (by omega), fun i _ => by rw [f.2.1 132 (by omega) (by omega), f.2.1 133 (by omega) (by omega), f.2.1 137 (by omega) (by omega)]; exact ⟨rfl, rfl, rfl⟩, by rw [f.2.1 134 (by omega) (by omega)], by rw [f.2.1 135 (by omega) (by omega)], fun i hi => f.2.2 i (by omega) (by omega), fun c _ => by rw [f.1], by rw [f.1], by rw [f.1]⟩
def d6B (c0 : Nat) (B : Bt) : Prop := ∀ i, i < B.length → d6 (st c0 (bx B i))
theorem mrw_bin {c0 x : Nat} {B : Bt} (hB : d6B c0 B) (hx : d6 (st c0 x)) : mrw c0 B (e6 (st c0 x)) = bin c0 B (st c0 x) := by
  rw [Bool.eq_iff_iff, bin_t]
  unfold mrw
  rw [List.any_eq_true]
  constructor
  · rintro ⟨e, h1, h2⟩
    obtain ⟨i, hi, he⟩ := List.getElem_of_mem h1
    have hb : bx B i = e.1 := by unfold bx; rw [List.getD_eq_getElem?_getD, List.getElem?_eq_getElem hi, he]; rfl
    refine ⟨i, hi, e6_inj (hB i hi) hx st_lt st_lt ?_⟩
    rw [hb]; exact Nat.eq_of_beq_eq_true h2
  · rintro ⟨i, hi, h2⟩
    refine ⟨B.getD i (0, 0, 0, 0), getD_mem B i _ hi, ?_⟩
    have hb : (B.getD i (0, 0, 0, 0)).1 = bx B i := rfl
    rw [hb, h2]; exact Nat.beq_refl _
/-- an arrangement is met -/
theorem s_meetsRow {c0 d k b x lv : Nat} {B : Bt} {m : am_M} (h : bR c0 B m) (hB : d6B c0 B) (hx : d6 (st c0 x)) (hn : B.length ≤ 120) : ∃ m', am_c (d + 1) y_M_meetsRow [.ref 107, .int (zn (e6 (st c0 x))), .int (zn k), .int (zn b)] m = some (none, m') ∧ (0 < B.length → bR c0 (bA c0 B x k b lv) m') ∧ frs m m' ∧ m'.1 107 77 = m.1 107 77 := by
  have hl := e6_lt hx
  have hm := h.m _ hl
  rw [mrw_bin hB hx] at hm
  unfold bA
  rw [n_M_meetsRow, br_oiF (by omega) (by omega), br_oiF (by omega) (by omega), zn_cl (by omega), hm, br_zb, h.n]
  cases e : bin c0 B (st c0 x) with
  | true => exact ⟨m, by rw [if_pos rfl], fun _ => by rw [if_pos rfl]; exact h, frs_refl m, rfl⟩
  | false =>
    rw [if_neg (by simp), br_oiF (by omega) (by omega), br_oiF (by omega) (by omega), br_oiF (by omega) (by omega), zn_cl (by omega), zn_add, nar_1]
    refine ⟨_, rfl, fun h0 => ?_, ⟨rfl, fun c c1 c2 => by simp (disch := omega) only [w_ne, w_at, wl_ne, wl_at, wc_ne, wc_at, upd_at, upd_ne, upl_at, upl_ne, cpy_in0, zn_cl, zn_add, zn_mul, zn_sub, zn_pm, br_tt, br_ff, br_ltT, br_ltF, br_leT, br_leF, br_eqT, br_eqF, br_eqs, br_eqm, br_eqm', br_ltm, br_mlt, br_lem, br_mle, br_oiF, br_lgge, br_lgle, br_lggt, br_lglt, br_lgeq, br_zb, br_zb1, bV_s, bI_s, bL_s, zo_n, zo_s], fun i i1 i2 => by simp (disch := omega) only [w_ne, w_at, wl_ne, wl_at, wc_ne, wc_at, upd_at, upd_ne, upl_at, upl_ne, cpy_in0, zn_cl, zn_add, zn_mul, zn_sub, zn_pm, br_tt, br_ff, br_ltT, br_ltF, br_leT, br_leF, br_eqT, br_eqF, br_eqs, br_eqm, br_eqm', br_ltm, br_mlt, br_lem, br_mle, br_oiF, br_lgge, br_lgle, br_lggt, br_lglt, br_lgeq, br_zb, br_zb1, bV_s, bI_s, bL_s, zo_n, zo_s]⟩, by simp (disch := omega) only [w_ne, w_at, wl_ne, wl_at, wc_ne, wc_at, upd_at, upd_ne, upl_at, upl_ne, cpy_in0, zn_cl, zn_add, zn_mul, zn_sub, zn_pm, br_tt, br_ff, br_ltT, br_ltF, br_leT, br_leF, br_eqT, br_eqF, br_eqs, br_eqm, br_eqm', br_ltm, br_mlt, br_lem, br_mle, br_oiF, br_lgge, br_lgle, br_lggt, br_lglt, br_lgeq, br_zb, br_zb1, bV_s, bI_s, bL_s, zo_n, zo_s]⟩
    rw [if_neg (by simp)]
    have len : (B ++ [(x, k, b, lv)]).length = B.length + 1 := by rw [List.length_append, List.length_singleton]
    refine ⟨?_, fun i hi => ?_, ?_, fun i h0 hi => ?_, fun c hc => ?_⟩
    · rw [len]; simp (disch := omega) only [w_ne, w_at, wl_ne, wl_at, wc_ne, wc_at, upd_at, upd_ne, upl_at, upl_ne, cpy_in0, zn_cl, zn_add, zn_mul, zn_sub, zn_pm, br_tt, br_ff, br_ltT, br_ltF, br_leT, br_leF, br_eqT, br_eqF, br_eqs, br_eqm, br_eqm', br_ltm, br_mlt, br_lem, br_mle, br_oiF, br_lgge, br_lgle, br_lggt, br_lglt, br_lgeq, br_zb, br_zb1, bV_s, bI_s, bL_s, zo_n, zo_s]
    · rw [len] at hi
      rcases (by omega : i < B.length ∨ i = B.length) with q | q
      · have e : bx (B ++ [(x, k, b, lv)]) i = bx B i := congrArg (fun e => e.1) (gd_l q)
        rw [e]; simp (disch := omega) only [w_ne, w_at, wl_ne, wl_at, wc_ne, wc_at, upd_at, upd_ne, upl_at, upl_ne, cpy_in0, zn_cl, zn_add, zn_mul, zn_sub, zn_pm, br_tt, br_ff, br_ltT, br_ltF, br_leT, br_leF, br_eqT, br_eqF, br_eqs, br_eqm, br_eqm', br_ltm, br_mlt, br_lem, br_mle, br_oiF, br_lgge, br_lgle, br_lggt, br_lglt, br_lgeq, br_zb, br_zb1, bV_s, bI_s, bL_s, zo_n, zo_s]; exact h.s i q
      · subst q
        have e : bx (B ++ [(x, k, b, lv)]) B.length = x := congrArg (fun e : Nat × Nat × Nat × Nat => e.1) gd_r
        rw [e]; simp (disch := omega) only [w_ne, w_at, wl_ne, wl_at, wc_ne, wc_at, upd_at, upd_ne, upl_at, upl_ne, cpy_in0, zn_cl, zn_add, zn_mul, zn_sub, zn_pm, br_tt, br_ff, br_ltT, br_ltF, br_leT, br_leF, br_eqT, br_eqF, br_eqs, br_eqm, br_eqm', br_ltm, br_mlt, br_lem, br_mle, br_oiF, br_lgge, br_lgle, br_lggt, br_lglt, br_lgeq, br_zb, br_zb1, bV_s, bI_s, bL_s, zo_n, zo_s]
    · simp (disch := omega) only [w_ne, w_at, wl_ne, wl_at, wc_ne, wc_at, upd_at, upd_ne, upl_at, upl_ne, cpy_in0, zn_cl, zn_add, zn_mul, zn_sub, zn_pm, br_tt, br_ff, br_ltT, br_ltF, br_leT, br_leF, br_eqT, br_eqF, br_eqs, br_eqm, br_eqm', br_ltm, br_mlt, br_lem, br_mle, br_oiF, br_lgge, br_lgle, br_lggt, br_lglt, br_lgeq, br_zb, br_zb1, bV_s, bI_s, bL_s, zo_n, zo_s]; exact h.r
    · rw [len] at hi
      rcases (by omega : i < B.length ∨ i = B.length) with q | q
      · have e : bf (B ++ [(x, k, b, lv)]) i = bf B i := congrArg (fun e => e.2.1) (gd_l q)
        have e2 : bb (B ++ [(x, k, b, lv)]) i = bb B i := congrArg (fun e => e.2.2.1) (gd_l q)
        rw [e, e2]; simp (disch := omega) only [w_ne, w_at, wl_ne, wl_at, wc_ne, wc_at, upd_at, upd_ne, upl_at, upl_ne, cpy_in0, zn_cl, zn_add, zn_mul, zn_sub, zn_pm, br_tt, br_ff, br_ltT, br_ltF, br_leT, br_leF, br_eqT, br_eqF, br_eqs, br_eqm, br_eqm', br_ltm, br_mlt, br_lem, br_mle, br_oiF, br_lgge, br_lgle, br_lggt, br_lglt, br_lgeq, br_zb, br_zb1, bV_s, bI_s, bL_s, zo_n, zo_s]; exact h.f i h0 q
      · subst q
        have e : bf (B ++ [(x, k, b, lv)]) B.length = k := congrArg (fun e : Nat × Nat × Nat × Nat => e.2.1) gd_r
        have e2 : bb (B ++ [(x, k, b, lv)]) B.length = b := congrArg (fun e : Nat × Nat × Nat × Nat => e.2.2.1) gd_r
        rw [e, e2]; simp (disch := omega) only [w_ne, w_at, wl_ne, wl_at, wc_ne, wc_at, upd_at, upd_ne, upl_at, upl_ne, cpy_in0, zn_cl, zn_add, zn_mul, zn_sub, zn_pm, br_tt, br_ff, br_ltT, br_ltF, br_leT, br_leF, br_eqT, br_eqF, br_eqs, br_eqm, br_eqm', br_ltm, br_mlt, br_lem, br_mle, br_oiF, br_lgge, br_lgle, br_lggt, br_lglt, br_lgeq, br_zb, br_zb1, bV_s, bI_s, bL_s, zo_n, zo_s, and_self]
    · have e2 : mrw c0 (B ++ [(x, k, b, lv)]) c = (mrw c0 B c || Nat.beq (e6 (st c0 x)) c) := by unfold mrw; rw [List.any_append]; simp
      rw [e2]
      by_cases g : c = e6 (st c0 x)
      · subst g; rw [Nat.beq_refl, Bool.or_true]; simp (disch := omega) only [w_ne, w_at, wl_ne, wl_at, wc_ne, wc_at, upd_at, upd_ne, upl_at, upl_ne, cpy_in0, zn_cl, zn_add, zn_mul, zn_sub, zn_pm, br_tt, br_ff, br_ltT, br_ltF, br_leT, br_leF, br_eqT, br_eqF, br_eqs, br_eqm, br_eqm', br_ltm, br_mlt, br_lem, br_mle, br_oiF, br_lgge, br_lgle, br_lggt, br_lglt, br_lgeq, br_zb, br_zb1, bV_s, bI_s, bL_s, zo_n, zo_s]; rfl
      · have g2 : Nat.beq (e6 (st c0 x)) c = false := by
          cases q : Nat.beq (e6 (st c0 x)) c with
          | false => rfl
          | true => exact absurd (Nat.eq_of_beq_eq_true q).symm g
        rw [g2, Bool.or_false]; simp (disch := omega) only [w_ne, w_at, wl_ne, wl_at, wc_ne, wc_at, upd_at, upd_ne, upl_at, upl_ne, cpy_in0, zn_cl, zn_add, zn_mul, zn_sub, zn_pm, br_tt, br_ff, br_ltT, br_ltF, br_leT, br_leF, br_eqT, br_eqF, br_eqs, br_eqm, br_eqm', br_ltm, br_mlt, br_lem, br_mle, br_oiF, br_lgge, br_lgle, br_lggt, br_lglt, br_lgeq, br_zb, br_zb1, bV_s, bI_s, bL_s, zo_n, zo_s]; exact h.m c hc
