/-! orders of lamps: the next one, all in order -/
def nx14 (p : Nat → Nat) : Nat → Option Nat
  | 0 => none
  | i + 1 => if p i ≤ p (i + 1) then some i else nx14 p i
def nx49 (p : Nat → Nat) (i : Nat) : Nat → Nat
  | 0 => 0
  | j + 1 => if j + 1 ≤ i + 1 then j + 1 else if p i ≤ p (j + 1) then j + 1 else nx49 p i j
def nxe (p : Nat → Nat) (i j : Nat) : Nat → Nat := fun k => if k = j then p i else if k = i then p j else p k
def nx91 : Nat → (Nat → Nat) → Nat → Nat → (Nat → Nat)
  | 0, p, _, _ => p
  | f + 1, p, lo, hi => if hi ≤ lo then p else nx91 f (nxe p lo hi) (lo + 1) (hi - 1)
def nxF (L : Nat) (p : Nat → Nat) : Option (Nat → Nat) := match nx14 p (L - 1) with
  | none => none
  | some i => some (nx91 5 (nxe p i (nx49 p i (L - 1))) (i + 1) (L - 1))
def nxm (p : Nat → Nat) (x : Nat) : Nat → Nat → Bool
  | 0, _ => false
  | r + 1, i => decide (p i = x) || nxm p x r (i + 1)
def isOr (L : Nat) (p : Nat → Nat) : Nat → Nat → Bool
  | 0, _ => true
  | r + 1, k => (decide (p k < L) && !(nxm p (p k) k 0)) && isOr L p r (k + 1)
def dgt (L c k : Nat) : Nat := c / 5 ^ (L - 1 - k) % 5
def dig (L c : Nat) : List Nat := (List.range L).map (dgt L c)
theorem dig_at {L c k : Nat} (h : k < L) : (dig L c).getD k 0 = dgt L c k := by simp [dig, List.getD_eq_getElem?_getD, h]
theorem dig_len {L c : Nat} : (dig L c).length = L := by simp [dig]
def ordF (L : Nat) : Nat → Nat → List (List Nat)
  | 0, _ => []
  | r + 1, c => if isOr L (dgt L c) L 0 = true then dig L c :: ordF L r (c + 1) else ordF L r (c + 1)
def ords (L : Nat) : List (List Nat) := ordF L (5 ^ L) 0
def chB (L : Nat) : List (List Nat) → Bool
  | [] => true
  | p :: t => (match nxF L (fun i => p.getD i 0) with
    | none => t.isEmpty
    | some f => match t with
      | [] => false
      | q :: _ => decide (q = (List.range L).map f)) && chB L t
theorem ords_ok : ∀ L, L < 6 → chB L (ords L) = true ∧ (ords L).head? = some (List.range L) ∧ (ords L).length ≤ 120 ∧ (ords L).all (fun p => decide (p.length = L) && p.all (fun x => decide (x < L))) = true := by decide +kernel
/-! the class's next order -/
theorem s_ex {L a b d : Nat} {p : Nat → Nat} {m : am_M} (hL : L ≤ 5) (ha : a < L) (hb : b < L) (hp : ∀ k, k < L → m.1 66 k = zn (p k)) :
    ∃ m', am_c (d + 1) y_Finder_exchangeInOrder [.ref 25, .int (zn a), .int (zn b)] m = some (none, m') ∧ m'.2 = m.2 ∧ (∀ c, c ≠ 66 → m'.1 c = m.1 c) ∧ ∀ k, k < L → m'.1 66 k = zn (nxe p a b k) := by
  refine ⟨(am_w (am_w m.1 66 a (zn (p b))) 66 b (zn (p a)), m.2), ?_, rfl, fun c hc => by simp (disch := omega) only [w_ne, w_at, wl_ne, wl_at, wc_ne, wc_at, upd_at, upd_ne, upl_at, upl_ne, cpy_in0, zn_cl, zn_add, zn_mul, zn_sub, zn_pm, br_tt, br_ff, br_ltT, br_ltF, br_leT, br_leF, br_eqT, br_eqF, br_eqs, br_eqm, br_eqm', br_ltm, br_mlt, br_lem, br_mle, br_oiF, br_lgge, br_lgle, br_lggt, br_lglt, br_lgeq, br_zb, br_zb1, bV_s, bI_s, bL_s, zo_n, zo_s], fun k hk => ?_⟩
  · rw [n_Finder_exchangeInOrder]
    simp (disch := omega) only [w_ne, w_at, wl_ne, wl_at, wc_ne, wc_at, upd_at, upd_ne, upl_at, upl_ne, cpy_in0, zn_cl, zn_add, zn_mul, zn_sub, zn_pm, br_tt, br_ff, br_ltT, br_ltF, br_leT, br_leF, br_eqT, br_eqF, br_eqs, br_eqm, br_eqm', br_ltm, br_mlt, br_lem, br_mle, br_oiF, br_lgge, br_lgle, br_lggt, br_lglt, br_lgeq, br_zb, br_zb1, bV_s, bI_s, bL_s, zo_n, zo_s, hp]
  · unfold nxe
    by_cases e : k = b
    · subst e; rw [if_pos rfl]; simp (disch := omega) only [w_ne, w_at, wl_ne, wl_at, wc_ne, wc_at, upd_at, upd_ne, upl_at, upl_ne, cpy_in0, zn_cl, zn_add, zn_mul, zn_sub, zn_pm, br_tt, br_ff, br_ltT, br_ltF, br_leT, br_leF, br_eqT, br_eqF, br_eqs, br_eqm, br_eqm', br_ltm, br_mlt, br_lem, br_mle, br_oiF, br_lgge, br_lgle, br_lggt, br_lglt, br_lgeq, br_zb, br_zb1, bV_s, bI_s, bL_s, zo_n, zo_s]
    · rw [if_neg e]
      by_cases e2 : k = a
      · subst e2; rw [if_pos rfl]; simp (disch := omega) only [w_ne, w_at, wl_ne, wl_at, wc_ne, wc_at, upd_at, upd_ne, upl_at, upl_ne, cpy_in0, zn_cl, zn_add, zn_mul, zn_sub, zn_pm, br_tt, br_ff, br_ltT, br_ltF, br_leT, br_leF, br_eqT, br_eqF, br_eqs, br_eqm, br_eqm', br_ltm, br_mlt, br_lem, br_mle, br_oiF, br_lgge, br_lgle, br_lggt, br_lglt, br_lgeq, br_zb, br_zb1, bV_s, bI_s, bL_s, zo_n, zo_s]
      · rw [if_neg e2]; simp (disch := omega) only [w_ne, w_at, wl_ne, wl_at, wc_ne, wc_at, upd_at, upd_ne, upl_at, upl_ne, cpy_in0, zn_cl, zn_add, zn_mul, zn_sub, zn_pm, br_tt, br_ff, br_ltT, br_ltF, br_leT, br_leF, br_eqT, br_eqF, br_eqs, br_eqm, br_eqm', br_ltm, br_mlt, br_lem, br_mle, br_oiF, br_lgge, br_lgle, br_lggt, br_lglt, br_lgeq, br_zb, br_zb1, bV_s, bI_s, bL_s, zo_n, zo_s]; exact hp k hk
theorem lp_91 {L d : Nat} {x1 x2 x3 : Int32} (hL : L ≤ 5) (g : Nat) : ∀ (p : Nat → Nat) (lo hi f : Nat) (m : am_M), hi ≤ lo + g → hi < L → lo ≤ 10 → g < f → (∀ k, k < L → m.1 66 k = zn (p k)) →
    ∃ m', r_Finder_goToNextOrder_91 (d + 1) f x1 x2 x3 (zn lo) (zn hi) m = some (some (.int (zn 1)), m') ∧ m'.2 = m.2 ∧ (∀ c, c ≠ 66 → m'.1 c = m.1 c) ∧ ∀ k, k < L → m'.1 66 k = zn (nx91 g p lo hi k) := by
  induction g with
  | zero =>
    intro p lo hi f m h1 h2 h4 h3 hp
    obtain ⟨f, rfl⟩ : ∃ g, f = g + 1 := ⟨f - 1, by omega⟩
    refine ⟨m, ?_, rfl, fun _ _ => rfl, hp⟩
    rw [e_Finder_goToNextOrder_91, br_leT (by omega) (by omega)]
  | succ g ih =>
    intro p lo hi f m h1 h2 h4 h3 hp
    obtain ⟨f, rfl⟩ : ∃ g, f = g + 1 := ⟨f - 1, by omega⟩
    by_cases e : hi ≤ lo
    · refine ⟨m, ?_, rfl, fun _ _ => rfl, ?_⟩
      · rw [e_Finder_goToNextOrder_91, br_leT (by omega) (by omega)]
      · intro k hk; rw [nx91, if_pos e]; exact hp k hk
    · obtain ⟨m1, a1, a2, a3, a4⟩ := s_ex (d := d) hL (show lo < L by omega) h2 hp
      obtain ⟨m', b1, b2, b3, b4⟩ := ih (nxe p lo hi) (lo + 1) (hi - 1) f m1 (by omega) (by omega) (by omega) (by omega) a4
      refine ⟨m', ?_, by rw [b2, a2], fun c hc => by rw [b3 c hc, a3 c hc], ?_⟩
      · rw [e_Finder_goToNextOrder_91, br_leF (by omega) (by omega), a1, bV_s, zn_add, zn_pm (by omega), b1]
      · intro k hk; rw [nx91, if_neg e]; exact b4 k hk
theorem lp_49 {L i d : Nat} {p : Nat → Nat} {m : am_M} (hL : L ≤ 5) (hi : i + 1 < L) (hp : ∀ k, k < L → m.1 66 k = zn (p k)) (hb : ∀ k, p k < 10) (j : Nat) : ∀ f, i < j → j < L → j < f →
    ∃ f' m', r_Finder_goToNextOrder_49 (d + 1) f (zn (L - 1)) (zn i) (zn j) m = r_Finder_goToNextOrder_91 (d + 1) f' (zn (L - 1)) (zn i) (zn (nx49 p i j)) (zn (i + 1)) (zn (L - 1)) m' ∧ f ≤ f' + j + 1 ∧ m'.2 = m.2 ∧ (∀ c, c ≠ 66 → m'.1 c = m.1 c) ∧ ∀ k, k < L → m'.1 66 k = zn (nxe p i (nx49 p i j) k) := by
  induction j with
  | zero => intro f h1; omega
  | succ j ih =>
    intro f h1 h2 h3
    obtain ⟨f, rfl⟩ : ∃ g, f = g + 1 := ⟨f - 1, by omega⟩
    have g1 := hb i; have g2 := hb (j + 1)
    obtain ⟨m1, a1, a2, a3, a4⟩ := s_ex (d := d) hL (show i < L by omega) h2 hp
    rw [e_Finder_goToNextOrder_49, nx49]
    by_cases e : j + 1 ≤ i + 1
    · rw [if_pos e, zn_add, br_leT (by omega) (by omega), a1, bV_s]
      exact ⟨f, m1, rfl, by omega, a2, a3, a4⟩
    · rw [if_neg e, zn_add, br_leF (by omega) (by omega), br_oiF (by omega) (by omega), br_oiF (by omega) (by omega), zn_cl (by omega), zn_cl (by omega), hp i (by omega), hp (j + 1) h2]
      by_cases e2 : p i ≤ p (j + 1)
      · rw [if_pos e2, br_leT e2 (by omega), a1, bV_s]
        exact ⟨f, m1, rfl, by omega, a2, a3, a4⟩
      · obtain ⟨f', m', b1, b0, b2, b3, b4⟩ := ih f (by omega) (by omega) (by omega)
        rw [if_neg e2, br_leF (by omega) (by omega), zn_pm (by omega), Nat.add_sub_cancel]
        exact ⟨f', m', b1, by omega, b2, b3, b4⟩
theorem lp_14 {L d : Nat} {p : Nat → Nat} {m : am_M} (hL : L ≤ 5) (hp : ∀ k, k < L → m.1 66 k = zn (p k)) (hb : ∀ k, p k < 10) (i : Nat) : ∀ f, i < L → i < f →
    ∃ f', f ≤ f' + i + 1 ∧ r_Finder_goToNextOrder_14 d f (zn (L - 1)) (zp i) m = (match nx14 p i with
      | none => some (some (.int (zn 0)), m)
      | some j => r_Finder_goToNextOrder_49 d f' (zn (L - 1)) (zn j) (zn (L - 1)) m) ∧ ∀ j, nx14 p i = some j → j < i := by
  induction i with
  | zero =>
    intro f h1 h2
    obtain ⟨f, rfl⟩ : ∃ g, f = g + 1 := ⟨f - 1, by omega⟩
    refine ⟨f, by omega, ?_, by intro j h; cases h⟩
    rw [e_Finder_goToNextOrder_14, zp, br_lt, zm_i, zn_i (by omega), if_pos (by omega), br_le, zm_i, zn_i (by omega), if_neg (by omega)]; rfl
  | succ i ih =>
    intro f h1 h2
    obtain ⟨f, rfl⟩ : ∃ g, f = g + 1 := ⟨f - 1, by omega⟩
    have g1 := hb i; have g2 := hb (i + 1)
    rw [e_Finder_goToNextOrder_14, zp, br_ltF (by omega) (by omega), br_oiF (by omega) (by omega), zn_add, br_oiF (by omega) (by omega), zn_cl (by omega), zn_cl (by omega), hp i (by omega), hp (i + 1) (by omega), nx14, zp_dec]
    by_cases e : p i ≤ p (i + 1)
    · rw [br_leT e (by omega), br_leT (by omega) (by omega), if_pos e]
      exact ⟨f, by omega, rfl, by intro j h; cases h; omega⟩
    · rw [br_leF (by omega) (by omega), if_neg e]
      obtain ⟨f', b0, b1, b2⟩ := ih f (by omega) (by omega)
      exact ⟨f', by omega, b1, fun j hj => by have := b2 j hj; omega⟩
theorem s_next {L d : Nat} {p : Nat → Nat} {m : am_M} (hL : L ≤ 5) (h13 : m.1 27 8 = zn L) (hp : ∀ k, k < L → m.1 66 k = zn (p k)) (hb : ∀ k, p k < 10) :
    ∃ m', am_c (d + 2) y_Finder_goToNextOrder [.ref 25] m = some (some (.int (zb (nxF L p).isSome)), m') ∧ m'.2 = m.2 ∧ (∀ c, c ≠ 66 → m'.1 c = m.1 c) ∧ ∀ p', nxF L p = some p' → ∀ k, k < L → m'.1 66 k = zn (p' k) := by
  rw [n_Finder_goToNextOrder, h13]
  rcases Nat.eq_zero_or_pos L with hz | hz
  · subst hz
    refine ⟨m, ?_, rfl, fun _ _ => rfl, fun p' _ k hk => by omega⟩
    have e1 : zn 0 - zn 1 - zn 1 = zq := by decide +kernel
    have e2 : zq.toInt = -2 := by decide +kernel
    rw [e1, e_Finder_goToNextOrder_14 (d + 1) 29998, br_lt, e2, zn_i (by omega), if_pos (by omega), br_le, e2, zn_i (by omega), if_neg (by omega)]; rfl
  · rw [zn_sub (by omega), zp_sub]
    obtain ⟨f', b0, b1, b2⟩ := lp_14 (d := d + 1) hL hp hb (L - 1) 29999 (by omega) (by omega)
    rw [b1]
    unfold nxF
    cases e : nx14 p (L - 1) with
    | none => exact ⟨m, rfl, rfl, fun _ _ => rfl, fun p' h => by cases h⟩
    | some i =>
      have hi := b2 i e
      obtain ⟨f2, m1, d1, d0, d2, d3, d4⟩ := lp_49 (d := d) hL (show i + 1 < L by omega) hp hb (L - 1) f' (by omega) (by omega) (by omega)
      obtain ⟨m2, g1, g2, g3, g4⟩ := lp_91 (d := d) (x1 := zn (L - 1)) (x2 := zn i) (x3 := zn (nx49 p i (L - 1))) hL 5 _ (i + 1) (L - 1) f2 m1 (by omega) (by omega) (by omega) (by omega) d4
      refine ⟨m2, ?_, by rw [g2, d2], fun c hc => by rw [g3 c hc, d3 c hc], ?_⟩
      · show r_Finder_goToNextOrder_49 (d + 1) f' (zn (L - 1)) (zn i) (zn (L - 1)) m = _
        rw [d1, g1]; rfl
      · intro p' h k hk
        cases h
        exact g4 k hk
/-! the reference: is a code an order -/
theorem lp_pow {a n d : Nat} {m : am_M} (hn : n < 1000) (r : Nat) : ∀ i f acc, i + r = n → r < f → r_M_powerOf_4 d f (zn a) (zn n) (zn acc) (zn i) m = some (some (.int (zn (acc * a ^ r))), m) := by
  induction r with
  | zero =>
    intro i f acc h1 h2
    obtain ⟨f, rfl⟩ : ∃ g, f = g + 1 := ⟨f - 1, by omega⟩
    rw [e_M_powerOf_4, br_leT (by omega) (by omega), Nat.pow_zero, Nat.mul_one]
  | succ r ih =>
    intro i f acc h1 h2
    obtain ⟨f, rfl⟩ : ∃ g, f = g + 1 := ⟨f - 1, by omega⟩
    rw [e_M_powerOf_4, br_leF (by omega) (by omega), zn_mul, zn_add, ih (i + 1) f (acc * a) (by omega) (by omega), Nat.pow_succ, Nat.mul_assoc, Nat.mul_comm a (a ^ r)]
theorem s_pow {a n d : Nat} {m : am_M} (hn : n < 1000) : am_c (d + 1) y_M_powerOf [.int (zn a), .int (zn n)] m = some (some (.int (zn (a ^ n))), m) := by
  rw [n_M_powerOf, lp_pow hn n 0 29999 1 (by omega) (by omega), Nat.one_mul]
theorem pow5_le : ∀ n, n < 6 → 5 ^ n ≤ 3125 ∧ 1 ≤ 5 ^ n := by decide
theorem lq_or1 {L c d : Nat} (hL : L ≤ 5) (hc : c < 3125) (r : Nat) : ∀ (k f : Nat) (m : am_M), k + r = L → r < f → m.1 107 13 = zn L → (∀ q, q < k → m.1 137 (5 + q) = zn (dgt L c q)) →
    ∃ f' m', r_M_isOrder_2 (d + 1) f (zn c) (zn k) m = r_M_isOrder_42 (d + 1) f' (zn c) (zn 0) m' ∧ f ≤ f' + r + 1 ∧ m'.2 = m.2 ∧ (∀ p, p ≠ 137 → m'.1 p = m.1 p) ∧ (∀ q, q < 5 → m'.1 137 q = m.1 137 q) ∧ ∀ q, q < L → m'.1 137 (5 + q) = zn (dgt L c q) := by
  induction r with
  | zero =>
    intro k f m h1 h2 h3 h4
    obtain ⟨f, rfl⟩ : ∃ g, f = g + 1 := ⟨f - 1, by omega⟩
    refine ⟨f, m, ?_, by omega, rfl, fun _ _ => rfl, fun _ _ => rfl, fun q hq => h4 q (by omega)⟩
    rw [e_M_isOrder_2, h3, br_leT (by omega) (by omega)]
  | succ r ih =>
    intro k f m h1 h2 h3 h4
    obtain ⟨f, rfl⟩ : ∃ g, f = g + 1 := ⟨f - 1, by omega⟩
    have hp := pow5_le (L - 1 - k) (by omega)
    obtain ⟨f', m', b1, b0, b2, b3, b4, b5⟩ := ih (k + 1) f (am_w m.1 137 (5 + k) (zn (dgt L c k)), m.2) (by omega) (by omega) (by simp (disch := omega) only [w_ne, w_at, wl_ne, wl_at, wc_ne, wc_at, upd_at, upd_ne, upl_at, upl_ne, cpy_in0, zn_cl, zn_add, zn_mul, zn_sub, zn_pm, br_tt, br_ff, br_ltT, br_ltF, br_leT, br_leF, br_eqT, br_eqF, br_eqs, br_eqm, br_eqm', br_ltm, br_mlt, br_lem, br_mle, br_oiF, br_lgge, br_lgle, br_lggt, br_lglt, br_lgeq, br_zb, br_zb1, bV_s, bI_s, bL_s, zo_n, zo_s, h3]) (by
      intro q hq
      by_cases e : q = k
      · subst e; simp (disch := omega) only [w_ne, w_at, wl_ne, wl_at, wc_ne, wc_at, upd_at, upd_ne, upl_at, upl_ne, cpy_in0, zn_cl, zn_add, zn_mul, zn_sub, zn_pm, br_tt, br_ff, br_ltT, br_ltF, br_leT, br_leF, br_eqT, br_eqF, br_eqs, br_eqm, br_eqm', br_ltm, br_mlt, br_lem, br_mle, br_oiF, br_lgge, br_lgle, br_lggt, br_lglt, br_lgeq, br_zb, br_zb1, bV_s, bI_s, bL_s, zo_n, zo_s]
      · simp (disch := omega) only [w_ne, w_at, wl_ne, wl_at, wc_ne, wc_at, upd_at, upd_ne, upl_at, upl_ne, cpy_in0, zn_cl, zn_add, zn_mul, zn_sub, zn_pm, br_tt, br_ff, br_ltT, br_ltF, br_leT, br_leF, br_eqT, br_eqF, br_eqs, br_eqm, br_eqm', br_ltm, br_mlt, br_lem, br_mle, br_oiF, br_lgge, br_lgle, br_lggt, br_lglt, br_lgeq, br_zb, br_zb1, bV_s, bI_s, bL_s, zo_n, zo_s]; exact h4 q (by omega))
    refine ⟨f', m', ?_, by omega, b2, fun p hp => by rw [b3 p hp]; simp (disch := omega) only [w_ne, w_at, wl_ne, wl_at, wc_ne, wc_at, upd_at, upd_ne, upl_at, upl_ne, cpy_in0, zn_cl, zn_add, zn_mul, zn_sub, zn_pm, br_tt, br_ff, br_ltT, br_ltF, br_leT, br_leF, br_eqT, br_eqF, br_eqs, br_eqm, br_eqm', br_ltm, br_mlt, br_lem, br_mle, br_oiF, br_lgge, br_lgle, br_lggt, br_lglt, br_lgeq, br_zb, br_zb1, bV_s, bI_s, bL_s, zo_n, zo_s], fun q hq => by rw [b4 q hq]; simp (disch := omega) only [w_ne, w_at, wl_ne, wl_at, wc_ne, wc_at, upd_at, upd_ne, upl_at, upl_ne, cpy_in0, zn_cl, zn_add, zn_mul, zn_sub, zn_pm, br_tt, br_ff, br_ltT, br_ltF, br_leT, br_leF, br_eqT, br_eqF, br_eqs, br_eqm, br_eqm', br_ltm, br_mlt, br_lem, br_mle, br_oiF, br_lgge, br_lgle, br_lggt, br_lglt, br_lgeq, br_zb, br_zb1, bV_s, bI_s, bL_s, zo_n, zo_s], b5⟩
    rw [e_M_isOrder_2, h3, br_leF (by omega) (by omega), zn_sub (by omega), zn_sub (by omega), s_pow (by omega), bI_s, br_eq, if_neg (by intro q; have := (zn_inj (b := 0) (by omega) (by omega)).mp q; omega), zn_add, br_oiF (by omega) (by omega), zn_cl (by omega), zn_div (by omega) (by omega), zn_rem (by have := Nat.div_le_self c (5 ^ (L - 1 - k)); omega) (by omega), zn_add]
    exact b1
theorem lq_mem {x d b k : Nat} {p : Nat → Nat} {m : am_M} (hb : b ≤ 5) (hk : k ≤ 5) (hx : x < 10) (hp : ∀ q, q < k → m.1 137 (b + q) = zn (p q)) (hp2 : ∀ q, p q < 10) (r : Nat) : ∀ i f, i + r = k → r < f → ∃ y, r_M_find_137_3 d f (zn b) (zn k) (zn x) (zn i) m = some (some (.int y), m) ∧ ((nxm p x r i = false ∧ y = zm) ∨ (nxm p x r i = true ∧ ∃ j, j < k ∧ y = zn j)) := by
  induction r with
  | zero =>
    intro i f h1 h2
    obtain ⟨f, rfl⟩ : ∃ g, f = g + 1 := ⟨f - 1, by omega⟩
    exact ⟨zm, by rw [e_M_find_137_3, br_leT (by omega) (by omega)], Or.inl ⟨rfl, rfl⟩⟩
  | succ r ih =>
    intro i f h1 h2
    obtain ⟨f, rfl⟩ : ∃ g, f = g + 1 := ⟨f - 1, by omega⟩
    have g1 := hp2 i
    rw [e_M_find_137_3, br_leF (by omega) (by omega), zn_add, br_oiF (by omega) (by omega), zn_cl (by omega), hp i (by omega), nxm, zn_add]
    by_cases e : p i = x
    · rw [br_eqT e, decide_eq_true e]
      exact ⟨zn i, rfl, Or.inr ⟨rfl, i, by omega, rfl⟩⟩
    · rw [br_eqF e (by omega) (by omega), decide_eq_false e, Bool.false_or]
      exact ih (i + 1) f (by omega) (by omega)
theorem dgt_lt {L c k : Nat} : dgt L c k < 5 := Nat.mod_lt _ (by omega)
theorem lq_or2 {L c d : Nat} {m : am_M} (hL : L ≤ 5) (h3 : m.1 107 13 = zn L) (h4 : ∀ q, q < L → m.1 137 (5 + q) = zn (dgt L c q)) (r : Nat) : ∀ k f, k + r = L → r < f → r_M_isOrder_42 (d + 1) f (zn c) (zn k) m = some (some (.int (zb (isOr L (dgt L c) r k))), m) := by
  induction r with
  | zero =>
    intro k f h1 h2
    obtain ⟨f, rfl⟩ : ∃ g, f = g + 1 := ⟨f - 1, by omega⟩
    rw [e_M_isOrder_42, h3, br_leT (by omega) (by omega)]; rfl
  | succ r ih =>
    intro k f h1 h2
    obtain ⟨f, rfl⟩ : ∃ g, f = g + 1 := ⟨f - 1, by omega⟩
    have g1 : dgt L c k < 5 := dgt_lt
    obtain ⟨y, a1, a2⟩ := lq_mem (x := dgt L c k) (d := d) (b := 5) (k := k) (p := dgt L c) (m := m) (by omega) (by omega) (by omega) (fun q hq => h4 q (by omega)) (fun q => by have : dgt L c q < 5 := dgt_lt; omega) k 0 29999 (by omega) (by omega)
    rw [e_M_isOrder_42, h3, br_leF (by omega) (by omega), zn_add, br_oiF (by omega) (by omega), br_oiF (by omega) (by omega), zn_cl (by omega), h4 k (by omega), isOr, n_M_find_137, a1, bI_s, zn_add]
    by_cases e : dgt L c k < L
    · rw [br_leF (by omega) (by omega), decide_eq_true e, Bool.true_and]
      rcases a2 with ⟨q1, q2⟩ | ⟨q1, j, q2, q3⟩
      · rw [q1, q2, br_lt, zm_i, zn_i (by omega), if_pos (by omega), ih (k + 1) f (by omega) (by omega)]; rfl
      · rw [q1, q3, br_ltF (by omega) (by omega)]; rfl
    · rw [br_leT (by omega) (by omega), decide_eq_false e]; rfl
theorem s_isOrder {L c d : Nat} {m : am_M} (hL : L ≤ 5) (hc : c < 3125) (h3 : m.1 107 13 = zn L) :
    ∃ m', am_c (d + 2) y_M_isOrder [.ref 107, .int (zn c)] m = some (some (.int (zb (isOr L (dgt L c) L 0))), m') ∧ m'.2 = m.2 ∧ (∀ p, p ≠ 137 → m'.1 p = m.1 p) ∧ (∀ q, q < 5 → m'.1 137 q = m.1 137 q) ∧ ∀ q, q < L → m'.1 137 (5 + q) = zn ((dig L c).getD q 0) := by
  obtain ⟨f', m', b1, b0, b2, b3, b4, b5⟩ := lq_or1 (d := d) hL hc L 0 29999 m (by omega) (by omega) h3 (fun q hq => by omega)
  refine ⟨m', ?_, b2, b3, b4, fun q hq => by rw [dig_at hq]; exact b5 q hq⟩
  rw [n_M_isOrder, b1, lq_or2 hL (by rw [b3 107 (by omega)]; exact h3) b5 L 0 f' (by omega) (by omega)]
