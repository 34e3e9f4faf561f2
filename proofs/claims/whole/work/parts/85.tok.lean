/-! tokens: pure; the class's scanner -/
def sb (x : Nat) : Int32 := (zn x).toInt8.toInt32
theorem sb_ok : ∀ x, x < 256 → (x < 128 → sb x = zn x) ∧ (128 ≤ x → (sb x).toInt < 0) := by decide +kernel
theorem br_sb {x k : Nat} {t f : am_R} (hx : x < 256) (hk : k < 128) : am_b (am_eq (sb x) (zn k)) t f = if x = k then t else f := by
  rw [br_eq]
  have h := sb_ok x hx
  by_cases e : x < 128
  · rw [h.1 e]
    by_cases g : x = k
    · rw [if_pos g, if_pos (by rw [g])]
    · rw [if_neg g, if_neg (by rw [zn_inj (by omega) (by omega)]; exact g)]
  · have h2 := h.2 (by omega)
    rw [if_neg (fun q => by rw [q, zn_i (by omega)] at h2; omega), if_neg (by omega)]
theorem br_sbl {x k : Nat} {t f : am_R} (hx : x < 256) (hk : k < 128) : am_b (am_lt (sb x) (zn k)) t f = if x < k ∨ 128 ≤ x then t else f := by
  rw [br_lt, zn_i (show k < 2147483648 by omega)]
  have h := sb_ok x hx
  by_cases e : x < 128
  · rw [h.1 e, zn_i (by omega)]
    by_cases g : x < k
    · rw [if_pos (by omega), if_pos (Or.inl g)]
    · rw [if_neg (by omega), if_neg (by omega)]
  · have h2 := h.2 (by omega)
    rw [if_pos (by omega), if_pos (by omega)]
theorem br_sbg {x k : Nat} {t f : am_R} (hx : x < 256) (hk : k < 128) : am_b (am_lt (zn k) (sb x)) t f = if k < x ∧ x < 128 then t else f := by
  rw [br_lt, zn_i (show k < 2147483648 by omega)]
  have h := sb_ok x hx
  by_cases e : x < 128
  · rw [h.1 e, zn_i (by omega)]
    by_cases g : k < x
    · rw [if_pos (by omega), if_pos ⟨g, e⟩]
    · rw [if_neg (by omega), if_neg (by omega)]
  · have h2 := h.2 (by omega)
    rw [if_neg (by omega), if_neg (by omega)]
def ltr (x : Nat) : Bool := decide (97 ≤ x ∧ x ≤ 122)
def dgi (x : Nat) : Bool := decide (48 ≤ x ∧ x ≤ 57)
def blk (x : Nat) : Bool := decide (x = 10 ∨ x = 32)
def rn_ (P : Nat → Bool) : Nat → Nat → Nat
  | 0, p => p
  | r + 1, p => if P p = true then rn_ P r (p + 1) else p
theorem rn_le {P : Nat → Bool} (r : Nat) : ∀ p, p ≤ rn_ P r p ∧ rn_ P r p ≤ p + r := by
  induction r with
  | zero => intro p; exact ⟨Nat.le_refl _, Nat.le_refl _⟩
  | succ r ih => intro p; rw [rn_]; have := ih (p + 1); split <;> omega
theorem rn_st {P : Nat → Bool} (r : Nat) : ∀ p, rn_ P r p < p + r → P (rn_ P r p) = false := by
  induction r with
  | zero => intro p h; rw [rn_] at h; omega
  | succ r ih =>
    intro p h
    rw [rn_] at h ⊢
    by_cases g : P p = true
    · rw [if_pos g] at h ⊢; exact ih (p + 1) (by omega)
    · rw [if_neg g]; exact Bool.eq_false_iff.mpr g
theorem rn_al {P : Nat → Bool} (r : Nat) : ∀ p j, p ≤ j → j < rn_ P r p → P j = true := by
  induction r with
  | zero => intro p j h1 h2; rw [rn_] at h2; omega
  | succ r ih =>
    intro p j h1 h2
    rw [rn_] at h2
    by_cases g : P p = true
    · rw [if_pos g] at h2
      rcases Nat.eq_or_lt_of_le h1 with e | e
      · rw [← e]; exact g
      · exact ih (p + 1) j (by omega) h2
    · rw [if_neg g] at h2; omega
/-- letters packed -/
def pkp (X : Nat → Nat) (a : Nat) : Nat → Nat
  | 0 => 0
  | i + 1 => if i < 6 then pkp X a i + (X (a + i) - 96) <<< (5 * (5 - i)) else pkp X a i
theorem pkp_sh {X : Nat → Nat} {a : Nat} (i : Nat) (hi : i ≤ 6) : ∃ B, pkp X a i = B <<< (5 * (6 - i)) := by
  induction i with
  | zero => exact ⟨0, by simp [pkp]⟩
  | succ i ih =>
    obtain ⟨B, hB⟩ := ih (by omega)
    refine ⟨B * 32 + (X (a + i) - 96), ?_⟩
    rw [pkp, if_pos (by omega), hB, show 5 * (6 - i) = 5 * (6 - (i + 1)) + 5 from by omega, show 5 * (5 - i) = 5 * (6 - (i + 1)) from by omega, Nat.shiftLeft_eq, Nat.shiftLeft_eq, Nat.shiftLeft_eq, Nat.pow_add, Nat.add_mul]
    congr 1
    rw [show (2 : Nat) ^ 5 = 32 from rfl, Nat.mul_assoc, Nat.mul_comm 32]
theorem pkp_lt {X : Nat → Nat} {a : Nat} (i : Nat) (hi : i ≤ 6) (hX : ∀ j, j < i → X (a + j) - 96 < 32) : pkp X a i + 2 ^ (5 * (6 - i)) ≤ 1073741824 := by
  induction i with
  | zero => rw [pkp]; decide
  | succ i ih =>
    have h1 := ih (by omega) (fun j hj => hX j (by omega))
    have h2 := hX i (by omega)
    rw [pkp, if_pos (by omega), Nat.shiftLeft_eq]
    rw [show 5 * (6 - i) = 5 * (5 - i) + 5 from by omega, Nat.pow_add] at h1
    rw [show 6 - (i + 1) = 5 - i from by omega]
    have h3 : (X (a + i) - 96) * 2 ^ (5 * (5 - i)) ≤ 31 * 2 ^ (5 * (5 - i)) := Nat.mul_le_mul_right _ (by omega)
    rw [show (2 : Nat) ^ 5 = 32 from rfl] at h1
    omega
theorem pkp_6 {X : Nat → Nat} {a : Nat} (r : Nat) : pkp X a (6 + r) = pkp X a 6 := by
  induction r with
  | zero => rfl
  | succ r ih => rw [Nat.add_succ, pkp, if_neg (by omega), ih]
def kx (c : Nat) : Nat → Nat → Nat
  | 0, _ => 25
  | r + 1, w => if cwd.getD w 0 = c then w else kx c r (w + 1)
theorem kx_le {c : Nat} (r : Nat) : ∀ w, w + r = 25 → kx c r w ≤ 25 := by
  induction r with
  | zero => intro w _; exact Nat.le_refl _
  | succ r ih => intro w h; rw [kx]; have := ih (w + 1) (by omega); split <;> omega
def nv (X : Nat → Nat) : Nat → Nat → Nat → Nat
  | 0, _, v => v
  | r + 1, p, v => nv X r (p + 1) (min 1000000 (v * 10 + X p - 48))
theorem nv_le {X : Nat → Nat} (r : Nat) : ∀ p v, v ≤ 1000000 → nv X r p v ≤ 1000000 := by
  induction r with
  | zero => intro p v h; exact h
  | succ r ih => intro p v _; rw [nv]; exact ih _ _ (Nat.min_le_left _ _)
def nxt1 (X : Nat → Nat) (n q : Nat) : Nat := if q + 1 < n then X (q + 1) else 0
def sgk (X : Nat → Nat) (n q : Nat) : Nat :=
  if X q = 40 then 28 else if X q = 41 then 29 else if X q = 42 then 38 else if X q = 43 then 36 else if X q = 45 then 37 else if X q = 47 then 39 else if X q = 59 then 27
  else if X q = 60 then (if nxt1 X n q = 61 then 31 else if nxt1 X n q = 62 then 33 else 30) else if X q = 61 then 32 else if X q = 62 then (if nxt1 X n q = 61 then 34 else 35) else 41
def sgl (k : Nat) : Nat := if k = 31 ∨ k = 33 ∨ k = 34 then 2 else 1
/-- the token from a place on: its kind, its value, its place, where the next begins -/
def tkq (X : Nat → Nat) (n p : Nat) : Nat := rn_ (fun j => blk (X j)) (n - p) p
def tkw (X : Nat → Nat) (n q : Nat) : Nat := rn_ (fun j => ltr (X j)) (n - q) q
def tkd (X : Nat → Nat) (n q : Nat) : Nat := rn_ (fun j => dgi (X j)) (n - q) q
abbrev Tk : Type := Nat × Nat × Nat × Nat
def tok (X : Nat → Nat) (n p : Nat) : Tk :=
  if n ≤ tkq X n p then (40, 0, tkq X n p, tkq X n p)
  else if ltr (X (tkq X n p)) = true then (if 6 < tkw X n (tkq X n p) - tkq X n p then (41, 0, tkq X n p, tkw X n (tkq X n p)) else (kx (pkp X (tkq X n p) (tkw X n (tkq X n p) - tkq X n p)) 25 0, pkp X (tkq X n p) (tkw X n (tkq X n p) - tkq X n p), tkq X n p, tkw X n (tkq X n p)))
  else if dgi (X (tkq X n p)) = true then (26, nv X (tkd X n (tkq X n p) - tkq X n p) (tkq X n p) 0, tkq X n p, tkd X n (tkq X n p))
  else (sgk X n (tkq X n p), 0, tkq X n p, tkq X n p + sgl (sgk X n (tkq X n p)))
/-! the class -/
def fk (m m' : am_M) : Prop := m'.2 = m.2 ∧ (∀ c, c ≠ 2 → m'.1 c = m.1 c) ∧ ∀ i, i < 3 ∨ 7 < i → m'.1 2 i = m.1 2 i
theorem fk_tr {m m1 m2 : am_M} (h : fk m m1) (g : fk m1 m2) : fk m m2 := ⟨g.1.trans h.1, fun c a => (g.2.1 c a).trans (h.2.1 c a), fun i a => (g.2.2 i a).trans (h.2.2 i a)⟩
def tC2 (X : Nat → Nat) (n : Nat) (m : am_M) : Prop :=
  (n ≤ 700)
  ∧ (∀ i, i < n → X i < 256)
  ∧ (m.1 2 2 = zn n)
  ∧ (∀ i, i < n → m.1 3 i = sb (X i))
  ∧ (∀ i, i < 25 → m.1 4 i = zn (cwd.getD i 0))
theorem tC2.n {X : Nat → Nat} {n : Nat} {m : am_M} (hZ : tC2 X n m) : n ≤ 700 := hZ.1
theorem tC2.x {X : Nat → Nat} {n : Nat} {m : am_M} (hZ : tC2 X n m) : ∀ i, i < n → X i < 256 := hZ.2.1
theorem tC2.l {X : Nat → Nat} {n : Nat} {m : am_M} (hZ : tC2 X n m) : m.1 2 2 = zn n := hZ.2.2.1
theorem tC2.b {X : Nat → Nat} {n : Nat} {m : am_M} (hZ : tC2 X n m) : ∀ i, i < n → m.1 3 i = sb (X i) := hZ.2.2.2.1
theorem tC2.w {X : Nat → Nat} {n : Nat} {m : am_M} (hZ : tC2 X n m) : ∀ i, i < 25 → m.1 4 i = zn (cwd.getD i 0) := hZ.2.2.2.2
theorem tC2.to {X : Nat → Nat} {n : Nat} {m m' : am_M} (h : tC2 X n m) (f : fk m m') : tC2 X n m' := ⟨h.n, h.x, by rw [f.2.2 2 (by omega)]; exact h.l, by rw [f.2.1 3 (by omega)]; exact h.b, by rw [f.2.1 4 (by omega)]; exact h.w⟩
def kC (t : Tk) (m : am_M) : Prop :=
  (m.1 2 3 = zn t.2.2.2)
  ∧ (m.1 2 4 = zn t.1)
  ∧ (m.1 2 5 = zn t.2.2.1)
  ∧ (t.1 = 25 → m.1 2 6 = zn t.2.1)
  ∧ (t.1 = 26 → m.1 2 7 = zn t.2.1)
theorem kC.nx {t : Tk} {m : am_M} (hZ : kC t m) : m.1 2 3 = zn t.2.2.2 := hZ.1
theorem kC.k {t : Tk} {m : am_M} (hZ : kC t m) : m.1 2 4 = zn t.1 := hZ.2.1
theorem kC.at_ {t : Tk} {m : am_M} (hZ : kC t m) : m.1 2 5 = zn t.2.2.1 := hZ.2.2.1
theorem kC.le {t : Tk} {m : am_M} (hZ : kC t m) : t.1 = 25 → m.1 2 6 = zn t.2.1 := hZ.2.2.2.1
theorem kC.va {t : Tk} {m : am_M} (hZ : kC t m) : t.1 = 26 → m.1 2 7 = zn t.2.1 := hZ.2.2.2.2
theorem s_isL {X : Nat → Nat} {n d q : Nat} {m : am_M} (h : tC2 X n m) (hq : q < n) : am_c (d + 1) y_Scanner_isLetter [.ref 2, .int (zn q)] m = some (some (.int (zb (ltr (X q)))), m) := by
  have h7 := h.n; have hx := h.x q hq
  rw [n_Scanner_isLetter, h.l, br_leF (by omega) (by omega), br_oiF (by omega) (by omega), br_oiF (by omega) (by omega), zn_cl (by omega), h.b q hq, br_sbl hx (by omega), br_sbg hx (by omega)]
  unfold ltr
  by_cases g : 97 ≤ X q ∧ X q ≤ 122
  · rw [if_neg (by omega), if_neg (by omega), decide_eq_true g]; rfl
  · rw [decide_eq_false g]
    by_cases g2 : X q < 97 ∨ 128 ≤ X q
    · rw [if_pos g2]; rfl
    · rw [if_neg g2, if_pos (by omega)]; rfl
theorem s_isL0 {X : Nat → Nat} {n d : Nat} {m : am_M} (h : tC2 X n m) : am_c (d + 1) y_Scanner_isLetter [.ref 2, .int (zn n)] m = some (some (.int (zn 0)), m) := by
  have h7 := h.n
  rw [n_Scanner_isLetter, h.l, br_leT (by omega) (by omega)]
theorem s_isD {X : Nat → Nat} {n d q : Nat} {m : am_M} (h : tC2 X n m) (hq : q < n) : am_c (d + 1) y_Scanner_isDigit [.ref 2, .int (zn q)] m = some (some (.int (zb (dgi (X q)))), m) := by
  have h7 := h.n; have hx := h.x q hq
  rw [n_Scanner_isDigit, h.l, br_leF (by omega) (by omega), br_oiF (by omega) (by omega), br_oiF (by omega) (by omega), zn_cl (by omega), h.b q hq, br_sbl hx (by omega), br_sbg hx (by omega)]
  unfold dgi
  by_cases g : 48 ≤ X q ∧ X q ≤ 57
  · rw [if_neg (by omega), if_neg (by omega), decide_eq_true g]; rfl
  · rw [decide_eq_false g]
    by_cases g2 : X q < 48 ∨ 128 ≤ X q
    · rw [if_pos g2]; rfl
    · rw [if_neg g2, if_pos (by omega)]; rfl
theorem s_isS {X : Nat → Nat} {n d q k : Nat} {m : am_M} (h : tC2 X n m) (hq : q ≤ n) (hk : k < 128) (hk0 : 0 < k) : am_c (d + 1) y_Scanner_isSign [.ref 2, .int (zn q), .int (zn k)] m = some (some (.int (zb (decide ((if q < n then X q else 0) = k)))), m) := by
  have h7 := h.n
  rw [n_Scanner_isSign, h.l]
  by_cases e : q < n
  · have hx := h.x q e
    rw [br_leF (by omega) (by omega), br_oiF (by omega) (by omega), zn_cl (by omega), h.b q e, br_sb hx hk, if_pos e]
    by_cases g : X q = k
    · rw [if_pos g, decide_eq_true g]; rfl
    · rw [if_neg g, decide_eq_false g]; rfl
  · rw [br_leT (by omega) (by omega), if_neg e, decide_eq_false (by omega)]; rfl
theorem lp_skip {X : Nat → Nat} {n d : Nat} (r : Nat) : ∀ (p f : Nat) (m : am_M), p + r = n → r < f → tC2 X n m → m.1 2 3 = zn p →
    ∃ f' m', r_Scanner_advance_0 d f m = r_Scanner_advance_0 d (f' + 1) m' ∧ m'.2 = m.2 ∧ (∀ c, c ≠ 2 → m'.1 c = m.1 c) ∧ (∀ i, i ≠ 3 → m'.1 2 i = m.1 2 i) ∧ m'.1 2 3 = zn (rn_ (fun j => blk (X j)) r p) := by
  induction r with
  | zero =>
    intro p f m h1 h2 h h3
    exact ⟨f - 1, m, by rw [Nat.sub_add_cancel (by omega)], rfl, fun _ _ => rfl, fun _ _ => rfl, h3⟩
  | succ r ih =>
    intro p f m h1 h2 h h3
    have h7 := h.n; have hx := h.x p (by omega)
    rw [rn_]
    by_cases g : blk (X p) = true
    · obtain ⟨f, rfl⟩ : ∃ g, f = g + 1 := ⟨f - 1, by omega⟩
      have f0 : fk m (am_w m.1 2 3 (zn (p + 1)), m.2) := ⟨rfl, fun c hc => by simp (disch := omega) only [w_ne, w_at, wl_ne, wl_at, wc_ne, wc_at, upd_at, upd_ne, upl_at, upl_ne, cpy_in0, zn_cl, zn_add, zn_mul, zn_sub, zn_pm, br_tt, br_ff, br_ltT, br_ltF, br_leT, br_leF, br_eqT, br_eqF, br_eqs, br_eqm, br_eqm', br_ltm, br_mlt, br_lem, br_mle, br_oiF, br_lgge, br_lgle, br_lggt, br_lglt, br_lgeq, br_zb, br_zb1, bV_s, bI_s, bL_s, zo_n, zo_s], fun i hi => by simp (disch := omega) only [w_ne, w_at, wl_ne, wl_at, wc_ne, wc_at, upd_at, upd_ne, upl_at, upl_ne, cpy_in0, zn_cl, zn_add, zn_mul, zn_sub, zn_pm, br_tt, br_ff, br_ltT, br_ltF, br_leT, br_leF, br_eqT, br_eqF, br_eqs, br_eqm, br_eqm', br_ltm, br_mlt, br_lem, br_mle, br_oiF, br_lgge, br_lgle, br_lggt, br_lglt, br_lgeq, br_zb, br_zb1, bV_s, bI_s, bL_s, zo_n, zo_s]⟩
      obtain ⟨f', m', b1, b2, b3, b4, b5⟩ := ih (p + 1) f (am_w m.1 2 3 (zn (p + 1)), m.2) (by omega) (by omega) (h.to f0) (by simp (disch := omega) only [w_ne, w_at, wl_ne, wl_at, wc_ne, wc_at, upd_at, upd_ne, upl_at, upl_ne, cpy_in0, zn_cl, zn_add, zn_mul, zn_sub, zn_pm, br_tt, br_ff, br_ltT, br_ltF, br_leT, br_leF, br_eqT, br_eqF, br_eqs, br_eqm, br_eqm', br_ltm, br_mlt, br_lem, br_mle, br_oiF, br_lgge, br_lgle, br_lggt, br_lglt, br_lgeq, br_zb, br_zb1, bV_s, bI_s, bL_s, zo_n, zo_s])
      rw [if_pos g]
      refine ⟨f', m', ?_, b2, fun c hc => by rw [b3 c hc]; simp (disch := omega) only [w_ne, w_at, wl_ne, wl_at, wc_ne, wc_at, upd_at, upd_ne, upl_at, upl_ne, cpy_in0, zn_cl, zn_add, zn_mul, zn_sub, zn_pm, br_tt, br_ff, br_ltT, br_ltF, br_leT, br_leF, br_eqT, br_eqF, br_eqs, br_eqm, br_eqm', br_ltm, br_mlt, br_lem, br_mle, br_oiF, br_lgge, br_lgle, br_lggt, br_lglt, br_lgeq, br_zb, br_zb1, bV_s, bI_s, bL_s, zo_n, zo_s], fun i hi => by rw [b4 i hi]; simp (disch := omega) only [w_ne, w_at, wl_ne, wl_at, wc_ne, wc_at, upd_at, upd_ne, upl_at, upl_ne, cpy_in0, zn_cl, zn_add, zn_mul, zn_sub, zn_pm, br_tt, br_ff, br_ltT, br_ltF, br_leT, br_leF, br_eqT, br_eqF, br_eqs, br_eqm, br_eqm', br_ltm, br_mlt, br_lem, br_mle, br_oiF, br_lgge, br_lgle, br_lggt, br_lglt, br_lgeq, br_zb, br_zb1, bV_s, bI_s, bL_s, zo_n, zo_s], b5⟩
      rw [e_Scanner_advance_0, h.l, h3, br_leF (by omega) (by omega), br_oiF (by omega) (by omega), br_oiF (by omega) (by omega), zn_cl (by omega), h.b p (by omega), br_sb hx (by omega), br_sb hx (by omega), zn_add, b1]
      unfold blk at g
      rw [decide_eq_true_eq] at g
      rcases g with q | q
      · rw [if_pos q]
      · rw [if_neg (by omega), if_pos q]
    · rw [if_neg g]
      exact ⟨f - 1, m, by rw [Nat.sub_add_cancel (by omega)], rfl, fun _ _ => rfl, fun _ _ => rfl, h3⟩
theorem sh5 {i : Nat} (hi : i ≤ 5) : zn 5 * (zn 5 - zn i) = zn (5 * (5 - i)) := by rw [zn_sub hi, zn_mul]
theorem sh5n {i : Nat} (h1 : 5 < i) (h2 : i ≤ 700) : (zn 5 * (zn 5 - zn i)).toInt < 0 := by
  have e : (zn 5 - zn i).toInt = 5 - (i : Int) := by
    rw [Int32.toInt_sub, zn_i (by omega), zn_i (by omega), Int.bmod_eq_of_le (by omega) (by omega)]; omega
  rw [Int32.toInt_mul, e, zn_i (by omega), Int.bmod_eq_of_le (by omega) (by omega)]; omega
theorem lp_word {X : Nat → Nat} {n d a : Nat} (r : Nat) : ∀ (i f : Nat) (x1 : Option Value) (m : am_M), a + i + r = n → r < f → tC2 X n m → m.1 2 3 = zn (a + i) → m.1 2 5 = zn a → m.1 2 6 = zn (pkp X a i) → (∀ j, j < i → ltr (X (a + j)) = true) →
    ∃ f' m', r_Scanner_readWord_5 (d + 1) f x1 m = r_Scanner_readWord_110 (d + 1) f' (zn 0) m' ∧ f ≤ f' + r + 1 ∧ fk m m' ∧ m'.1 2 3 = zn (rn_ (fun j => ltr (X j)) r (a + i)) ∧ m'.1 2 5 = zn a ∧ m'.1 2 6 = zn (pkp X a (rn_ (fun j => ltr (X j)) r (a + i) - a)) ∧ m'.1 2 4 = (if 6 < rn_ (fun j => ltr (X j)) r (a + i) - a then zn 41 else zn 25) := by
  induction r with
  | zero =>
    intro i f x1 m h1 h2 h h3 h5 h6 hl
    have h7 := h.n
    obtain ⟨f, rfl⟩ : ∃ g, f = g + 1 := ⟨f - 1, by omega⟩
    rw [rn_, e_Scanner_readWord_5, h.l, h3, h5, br_leT (by omega) (by omega), zn_sub (by omega), Nat.add_sub_cancel_left]
    by_cases g : i ≤ 6
    · rw [br_leT g (by omega), if_neg (by omega)]
      exact ⟨f, _, rfl, by omega, ⟨rfl, fun c hc => by simp (disch := omega) only [w_ne, w_at, wl_ne, wl_at, wc_ne, wc_at, upd_at, upd_ne, upl_at, upl_ne, cpy_in0, zn_cl, zn_add, zn_mul, zn_sub, zn_pm, br_tt, br_ff, br_ltT, br_ltF, br_leT, br_leF, br_eqT, br_eqF, br_eqs, br_eqm, br_eqm', br_ltm, br_mlt, br_lem, br_mle, br_oiF, br_lgge, br_lgle, br_lggt, br_lglt, br_lgeq, br_zb, br_zb1, bV_s, bI_s, bL_s, zo_n, zo_s], fun i hi => by simp (disch := omega) only [w_ne, w_at, wl_ne, wl_at, wc_ne, wc_at, upd_at, upd_ne, upl_at, upl_ne, cpy_in0, zn_cl, zn_add, zn_mul, zn_sub, zn_pm, br_tt, br_ff, br_ltT, br_ltF, br_leT, br_leF, br_eqT, br_eqF, br_eqs, br_eqm, br_eqm', br_ltm, br_mlt, br_lem, br_mle, br_oiF, br_lgge, br_lgle, br_lggt, br_lglt, br_lgeq, br_zb, br_zb1, bV_s, bI_s, bL_s, zo_n, zo_s]⟩, by simp (disch := omega) only [w_ne, w_at, wl_ne, wl_at, wc_ne, wc_at, upd_at, upd_ne, upl_at, upl_ne, cpy_in0, zn_cl, zn_add, zn_mul, zn_sub, zn_pm, br_tt, br_ff, br_ltT, br_ltF, br_leT, br_leF, br_eqT, br_eqF, br_eqs, br_eqm, br_eqm', br_ltm, br_mlt, br_lem, br_mle, br_oiF, br_lgge, br_lgle, br_lggt, br_lglt, br_lgeq, br_zb, br_zb1, bV_s, bI_s, bL_s, zo_n, zo_s, h3], by simp (disch := omega) only [w_ne, w_at, wl_ne, wl_at, wc_ne, wc_at, upd_at, upd_ne, upl_at, upl_ne, cpy_in0, zn_cl, zn_add, zn_mul, zn_sub, zn_pm, br_tt, br_ff, br_ltT, br_ltF, br_leT, br_leF, br_eqT, br_eqF, br_eqs, br_eqm, br_eqm', br_ltm, br_mlt, br_lem, br_mle, br_oiF, br_lgge, br_lgle, br_lggt, br_lglt, br_lgeq, br_zb, br_zb1, bV_s, bI_s, bL_s, zo_n, zo_s, h5], by simp (disch := omega) only [w_ne, w_at, wl_ne, wl_at, wc_ne, wc_at, upd_at, upd_ne, upl_at, upl_ne, cpy_in0, zn_cl, zn_add, zn_mul, zn_sub, zn_pm, br_tt, br_ff, br_ltT, br_ltF, br_leT, br_leF, br_eqT, br_eqF, br_eqs, br_eqm, br_eqm', br_ltm, br_mlt, br_lem, br_mle, br_oiF, br_lgge, br_lgle, br_lggt, br_lglt, br_lgeq, br_zb, br_zb1, bV_s, bI_s, bL_s, zo_n, zo_s, h6], by simp (disch := omega) only [w_ne, w_at, wl_ne, wl_at, wc_ne, wc_at, upd_at, upd_ne, upl_at, upl_ne, cpy_in0, zn_cl, zn_add, zn_mul, zn_sub, zn_pm, br_tt, br_ff, br_ltT, br_ltF, br_leT, br_leF, br_eqT, br_eqF, br_eqs, br_eqm, br_eqm', br_ltm, br_mlt, br_lem, br_mle, br_oiF, br_lgge, br_lgle, br_lggt, br_lglt, br_lgeq, br_zb, br_zb1, bV_s, bI_s, bL_s, zo_n, zo_s]⟩
    · rw [br_leF (by omega) (by omega), if_pos (by omega)]
      exact ⟨f, _, rfl, by omega, ⟨rfl, fun c hc => by simp (disch := omega) only [w_ne, w_at, wl_ne, wl_at, wc_ne, wc_at, upd_at, upd_ne, upl_at, upl_ne, cpy_in0, zn_cl, zn_add, zn_mul, zn_sub, zn_pm, br_tt, br_ff, br_ltT, br_ltF, br_leT, br_leF, br_eqT, br_eqF, br_eqs, br_eqm, br_eqm', br_ltm, br_mlt, br_lem, br_mle, br_oiF, br_lgge, br_lgle, br_lggt, br_lglt, br_lgeq, br_zb, br_zb1, bV_s, bI_s, bL_s, zo_n, zo_s], fun i hi => by simp (disch := omega) only [w_ne, w_at, wl_ne, wl_at, wc_ne, wc_at, upd_at, upd_ne, upl_at, upl_ne, cpy_in0, zn_cl, zn_add, zn_mul, zn_sub, zn_pm, br_tt, br_ff, br_ltT, br_ltF, br_leT, br_leF, br_eqT, br_eqF, br_eqs, br_eqm, br_eqm', br_ltm, br_mlt, br_lem, br_mle, br_oiF, br_lgge, br_lgle, br_lggt, br_lglt, br_lgeq, br_zb, br_zb1, bV_s, bI_s, bL_s, zo_n, zo_s]⟩, by simp (disch := omega) only [w_ne, w_at, wl_ne, wl_at, wc_ne, wc_at, upd_at, upd_ne, upl_at, upl_ne, cpy_in0, zn_cl, zn_add, zn_mul, zn_sub, zn_pm, br_tt, br_ff, br_ltT, br_ltF, br_leT, br_leF, br_eqT, br_eqF, br_eqs, br_eqm, br_eqm', br_ltm, br_mlt, br_lem, br_mle, br_oiF, br_lgge, br_lgle, br_lggt, br_lglt, br_lgeq, br_zb, br_zb1, bV_s, bI_s, bL_s, zo_n, zo_s, h3], by simp (disch := omega) only [w_ne, w_at, wl_ne, wl_at, wc_ne, wc_at, upd_at, upd_ne, upl_at, upl_ne, cpy_in0, zn_cl, zn_add, zn_mul, zn_sub, zn_pm, br_tt, br_ff, br_ltT, br_ltF, br_leT, br_leF, br_eqT, br_eqF, br_eqs, br_eqm, br_eqm', br_ltm, br_mlt, br_lem, br_mle, br_oiF, br_lgge, br_lgle, br_lggt, br_lglt, br_lgeq, br_zb, br_zb1, bV_s, bI_s, bL_s, zo_n, zo_s, h5], by simp (disch := omega) only [w_ne, w_at, wl_ne, wl_at, wc_ne, wc_at, upd_at, upd_ne, upl_at, upl_ne, cpy_in0, zn_cl, zn_add, zn_mul, zn_sub, zn_pm, br_tt, br_ff, br_ltT, br_ltF, br_leT, br_leF, br_eqT, br_eqF, br_eqs, br_eqm, br_eqm', br_ltm, br_mlt, br_lem, br_mle, br_oiF, br_lgge, br_lgle, br_lggt, br_lglt, br_lgeq, br_zb, br_zb1, bV_s, bI_s, bL_s, zo_n, zo_s, h6], by simp (disch := omega) only [w_ne, w_at, wl_ne, wl_at, wc_ne, wc_at, upd_at, upd_ne, upl_at, upl_ne, cpy_in0, zn_cl, zn_add, zn_mul, zn_sub, zn_pm, br_tt, br_ff, br_ltT, br_ltF, br_leT, br_leF, br_eqT, br_eqF, br_eqs, br_eqm, br_eqm', br_ltm, br_mlt, br_lem, br_mle, br_oiF, br_lgge, br_lgle, br_lggt, br_lglt, br_lgeq, br_zb, br_zb1, bV_s, bI_s, bL_s, zo_n, zo_s]⟩
  | succ r ih =>
    intro i f x1 m h1 h2 h h3 h5 h6 hl
    have h7 := h.n; have hx := h.x (a + i) (by omega)
    obtain ⟨f, rfl⟩ : ∃ g, f = g + 1 := ⟨f - 1, by omega⟩
    rw [rn_, e_Scanner_readWord_5, h.l, h3, br_leF (by omega) (by omega), s_isL h (by omega), bI_s, br_zb, h3, h5, zn_sub (by omega), Nat.add_sub_cancel_left]
    by_cases g : ltr (X (a + i)) = true
    · rw [if_pos g, if_pos g]
      have gl : 97 ≤ X (a + i) ∧ X (a + i) ≤ 122 := of_decide_eq_true g
      have hl' : ∀ j, j < i + 1 → ltr (X (a + j)) = true := fun j hj => by
        rcases (by omega : j < i ∨ j = i) with e | e
        · exact hl j e
        · rw [e]; exact g
      by_cases g6 : i ≤ 5
      · obtain ⟨B, hB⟩ := pkp_sh (X := X) (a := a) i (by omega)
        have lt := pkp_lt (X := X) (a := a) i (by omega) (fun j hj => by have : 97 ≤ X (a + j) ∧ X (a + j) ≤ 122 := of_decide_eq_true (hl j hj); omega)
        have lt2 := pkp_lt (X := X) (a := a) (i + 1) (by omega) (fun j hj => by have : 97 ≤ X (a + j) ∧ X (a + j) ≤ 122 := of_decide_eq_true (hl' j hj); omega)
        have hp1 : 0 < 2 ^ (5 * (6 - i)) := Nat.pow_pos (by omega)
        have e1 : pkp X a (i + 1) = pkp X a i + (X (a + i) - 96) <<< (5 * (5 - i)) := by rw [pkp, if_pos (by omega)]
        have hv : (X (a + i) - 96) <<< (5 * (5 - i)) < 2 ^ (5 * (6 - i)) := by
          rw [Nat.shiftLeft_eq, show 5 * (6 - i) = 5 * (5 - i) + 5 from by omega, Nat.pow_add, Nat.mul_comm]
          exact Nat.mul_lt_mul_of_pos_left (show X (a + i) - 96 < 2 ^ 5 by omega) (Nat.pow_pos (by omega))
        have hor : pkp X a i ||| (X (a + i) - 96) <<< (5 * (5 - i)) = pkp X a (i + 1) := by
          rw [e1, hB, Nat.shiftLeft_add_eq_or_of_lt hv]
        have eb : m.1 3 (a + i) - zn 97 + zn 1 = zn (X (a + i) - 96) := by
          rw [h.b _ (by omega), (sb_ok _ hx).1 (by omega), zn_sub (by omega), zn_add, show X (a + i) - 97 + 1 = X (a + i) - 96 from by omega]
        have f0 : fk m (am_w (am_w m.1 2 6 (zn (pkp X a (i + 1)))) 2 3 (zn (a + (i + 1))), m.2) := ⟨rfl, fun c hc => by simp (disch := omega) only [w_ne, w_at, wl_ne, wl_at, wc_ne, wc_at, upd_at, upd_ne, upl_at, upl_ne, cpy_in0, zn_cl, zn_add, zn_mul, zn_sub, zn_pm, br_tt, br_ff, br_ltT, br_ltF, br_leT, br_leF, br_eqT, br_eqF, br_eqs, br_eqm, br_eqm', br_ltm, br_mlt, br_lem, br_mle, br_oiF, br_lgge, br_lgle, br_lggt, br_lglt, br_lgeq, br_zb, br_zb1, bV_s, bI_s, bL_s, zo_n, zo_s], fun i hi => by simp (disch := omega) only [w_ne, w_at, wl_ne, wl_at, wc_ne, wc_at, upd_at, upd_ne, upl_at, upl_ne, cpy_in0, zn_cl, zn_add, zn_mul, zn_sub, zn_pm, br_tt, br_ff, br_ltT, br_ltF, br_leT, br_leF, br_eqT, br_eqF, br_eqs, br_eqm, br_eqm', br_ltm, br_mlt, br_lem, br_mle, br_oiF, br_lgge, br_lgle, br_lggt, br_lglt, br_lgeq, br_zb, br_zb1, bV_s, bI_s, bL_s, zo_n, zo_s]⟩
        obtain ⟨f', m', b1, b0, b2, b3, b4, b5, b6⟩ := ih (i + 1) f (some (.int (zn (5 * (5 - i))))) (am_w (am_w m.1 2 6 (zn (pkp X a (i + 1)))) 2 3 (zn (a + (i + 1))), m.2) (by omega) (by omega) (h.to f0) (by simp (disch := omega) only [w_ne, w_at, wl_ne, wl_at, wc_ne, wc_at, upd_at, upd_ne, upl_at, upl_ne, cpy_in0, zn_cl, zn_add, zn_mul, zn_sub, zn_pm, br_tt, br_ff, br_ltT, br_ltF, br_leT, br_leF, br_eqT, br_eqF, br_eqs, br_eqm, br_eqm', br_ltm, br_mlt, br_lem, br_mle, br_oiF, br_lgge, br_lgle, br_lggt, br_lglt, br_lgeq, br_zb, br_zb1, bV_s, bI_s, bL_s, zo_n, zo_s]) (by simp (disch := omega) only [w_ne, w_at, wl_ne, wl_at, wc_ne, wc_at, upd_at, upd_ne, upl_at, upl_ne, cpy_in0, zn_cl, zn_add, zn_mul, zn_sub, zn_pm, br_tt, br_ff, br_ltT, br_ltF, br_leT, br_leF, br_eqT, br_eqF, br_eqs, br_eqm, br_eqm', br_ltm, br_mlt, br_lem, br_mle, br_oiF, br_lgge, br_lgle, br_lggt, br_lglt, br_lgeq, br_zb, br_zb1, bV_s, bI_s, bL_s, zo_n, zo_s, h5]) (by simp (disch := omega) only [w_ne, w_at, wl_ne, wl_at, wc_ne, wc_at, upd_at, upd_ne, upl_at, upl_ne, cpy_in0, zn_cl, zn_add, zn_mul, zn_sub, zn_pm, br_tt, br_ff, br_ltT, br_ltF, br_leT, br_leF, br_eqT, br_eqF, br_eqs, br_eqm, br_eqm', br_ltm, br_mlt, br_lem, br_mle, br_oiF, br_lgge, br_lgle, br_lggt, br_lglt, br_lgeq, br_zb, br_zb1, bV_s, bI_s, bL_s, zo_n, zo_s]) hl'
        refine ⟨f', m', ?_, by omega, fk_tr f0 b2, b3, b4, b5, b6⟩
        have hpl : pkp X a i < 2147483648 := by omega
        have hsl : (X (a + i) - 96) <<< (5 * (5 - i)) < 2147483648 := by omega
        rw [sh5 g6, br_ltF (by omega) (by omega), br_oiF (by omega) (by omega), zn_cl (by omega), h6, eb, zn_shl (by omega) (by omega), zn_or hpl hsl, hor, zn_add, Nat.add_assoc, b1]
      · have e1 : pkp X a (i + 1) = pkp X a i := by rw [pkp, if_neg (by omega)]
        have f0 : fk m (am_w m.1 2 3 (zn (a + (i + 1))), m.2) := ⟨rfl, fun c hc => by simp (disch := omega) only [w_ne, w_at, wl_ne, wl_at, wc_ne, wc_at, upd_at, upd_ne, upl_at, upl_ne, cpy_in0, zn_cl, zn_add, zn_mul, zn_sub, zn_pm, br_tt, br_ff, br_ltT, br_ltF, br_leT, br_leF, br_eqT, br_eqF, br_eqs, br_eqm, br_eqm', br_ltm, br_mlt, br_lem, br_mle, br_oiF, br_lgge, br_lgle, br_lggt, br_lglt, br_lgeq, br_zb, br_zb1, bV_s, bI_s, bL_s, zo_n, zo_s], fun i hi => by simp (disch := omega) only [w_ne, w_at, wl_ne, wl_at, wc_ne, wc_at, upd_at, upd_ne, upl_at, upl_ne, cpy_in0, zn_cl, zn_add, zn_mul, zn_sub, zn_pm, br_tt, br_ff, br_ltT, br_ltF, br_leT, br_leF, br_eqT, br_eqF, br_eqs, br_eqm, br_eqm', br_ltm, br_mlt, br_lem, br_mle, br_oiF, br_lgge, br_lgle, br_lggt, br_lglt, br_lgeq, br_zb, br_zb1, bV_s, bI_s, bL_s, zo_n, zo_s]⟩
        obtain ⟨f', m', b1, b0, b2, b3, b4, b5, b6⟩ := ih (i + 1) f (some (.int (zn 5 * (zn 5 - zn i)))) (am_w m.1 2 3 (zn (a + (i + 1))), m.2) (by omega) (by omega) (h.to f0) (by simp (disch := omega) only [w_ne, w_at, wl_ne, wl_at, wc_ne, wc_at, upd_at, upd_ne, upl_at, upl_ne, cpy_in0, zn_cl, zn_add, zn_mul, zn_sub, zn_pm, br_tt, br_ff, br_ltT, br_ltF, br_leT, br_leF, br_eqT, br_eqF, br_eqs, br_eqm, br_eqm', br_ltm, br_mlt, br_lem, br_mle, br_oiF, br_lgge, br_lgle, br_lggt, br_lglt, br_lgeq, br_zb, br_zb1, bV_s, bI_s, bL_s, zo_n, zo_s]) (by simp (disch := omega) only [w_ne, w_at, wl_ne, wl_at, wc_ne, wc_at, upd_at, upd_ne, upl_at, upl_ne, cpy_in0, zn_cl, zn_add, zn_mul, zn_sub, zn_pm, br_tt, br_ff, br_ltT, br_ltF, br_leT, br_leF, br_eqT, br_eqF, br_eqs, br_eqm, br_eqm', br_ltm, br_mlt, br_lem, br_mle, br_oiF, br_lgge, br_lgle, br_lggt, br_lglt, br_lgeq, br_zb, br_zb1, bV_s, bI_s, bL_s, zo_n, zo_s, h5]) (by rw [e1]; simp (disch := omega) only [w_ne, w_at, wl_ne, wl_at, wc_ne, wc_at, upd_at, upd_ne, upl_at, upl_ne, cpy_in0, zn_cl, zn_add, zn_mul, zn_sub, zn_pm, br_tt, br_ff, br_ltT, br_ltF, br_leT, br_leF, br_eqT, br_eqF, br_eqs, br_eqm, br_eqm', br_ltm, br_mlt, br_lem, br_mle, br_oiF, br_lgge, br_lgle, br_lggt, br_lglt, br_lgeq, br_zb, br_zb1, bV_s, bI_s, bL_s, zo_n, zo_s, h6]) hl'
        refine ⟨f', m', ?_, by omega, fk_tr f0 b2, b3, b4, b5, b6⟩
        rw [br_lt, zn_i (show 0 < 2147483648 by omega), if_pos (show (zn 5 * (zn 5 - zn i)).toInt < ((0 : Nat) : Int) from sh5n (by omega) (by omega)), zn_add, Nat.add_assoc, b1]
    · rw [if_neg g, if_neg g, Nat.add_sub_cancel_left]
      by_cases g6 : i ≤ 6
      · rw [br_leT g6 (by omega), if_neg (by omega)]
        exact ⟨f, _, rfl, by omega, ⟨rfl, fun c hc => by simp (disch := omega) only [w_ne, w_at, wl_ne, wl_at, wc_ne, wc_at, upd_at, upd_ne, upl_at, upl_ne, cpy_in0, zn_cl, zn_add, zn_mul, zn_sub, zn_pm, br_tt, br_ff, br_ltT, br_ltF, br_leT, br_leF, br_eqT, br_eqF, br_eqs, br_eqm, br_eqm', br_ltm, br_mlt, br_lem, br_mle, br_oiF, br_lgge, br_lgle, br_lggt, br_lglt, br_lgeq, br_zb, br_zb1, bV_s, bI_s, bL_s, zo_n, zo_s], fun i hi => by simp (disch := omega) only [w_ne, w_at, wl_ne, wl_at, wc_ne, wc_at, upd_at, upd_ne, upl_at, upl_ne, cpy_in0, zn_cl, zn_add, zn_mul, zn_sub, zn_pm, br_tt, br_ff, br_ltT, br_ltF, br_leT, br_leF, br_eqT, br_eqF, br_eqs, br_eqm, br_eqm', br_ltm, br_mlt, br_lem, br_mle, br_oiF, br_lgge, br_lgle, br_lggt, br_lglt, br_lgeq, br_zb, br_zb1, bV_s, bI_s, bL_s, zo_n, zo_s]⟩, by simp (disch := omega) only [w_ne, w_at, wl_ne, wl_at, wc_ne, wc_at, upd_at, upd_ne, upl_at, upl_ne, cpy_in0, zn_cl, zn_add, zn_mul, zn_sub, zn_pm, br_tt, br_ff, br_ltT, br_ltF, br_leT, br_leF, br_eqT, br_eqF, br_eqs, br_eqm, br_eqm', br_ltm, br_mlt, br_lem, br_mle, br_oiF, br_lgge, br_lgle, br_lggt, br_lglt, br_lgeq, br_zb, br_zb1, bV_s, bI_s, bL_s, zo_n, zo_s, h3], by simp (disch := omega) only [w_ne, w_at, wl_ne, wl_at, wc_ne, wc_at, upd_at, upd_ne, upl_at, upl_ne, cpy_in0, zn_cl, zn_add, zn_mul, zn_sub, zn_pm, br_tt, br_ff, br_ltT, br_ltF, br_leT, br_leF, br_eqT, br_eqF, br_eqs, br_eqm, br_eqm', br_ltm, br_mlt, br_lem, br_mle, br_oiF, br_lgge, br_lgle, br_lggt, br_lglt, br_lgeq, br_zb, br_zb1, bV_s, bI_s, bL_s, zo_n, zo_s, h5], by simp (disch := omega) only [w_ne, w_at, wl_ne, wl_at, wc_ne, wc_at, upd_at, upd_ne, upl_at, upl_ne, cpy_in0, zn_cl, zn_add, zn_mul, zn_sub, zn_pm, br_tt, br_ff, br_ltT, br_ltF, br_leT, br_leF, br_eqT, br_eqF, br_eqs, br_eqm, br_eqm', br_ltm, br_mlt, br_lem, br_mle, br_oiF, br_lgge, br_lgle, br_lggt, br_lglt, br_lgeq, br_zb, br_zb1, bV_s, bI_s, bL_s, zo_n, zo_s, h6], by simp (disch := omega) only [w_ne, w_at, wl_ne, wl_at, wc_ne, wc_at, upd_at, upd_ne, upl_at, upl_ne, cpy_in0, zn_cl, zn_add, zn_mul, zn_sub, zn_pm, br_tt, br_ff, br_ltT, br_ltF, br_leT, br_leF, br_eqT, br_eqF, br_eqs, br_eqm, br_eqm', br_ltm, br_mlt, br_lem, br_mle, br_oiF, br_lgge, br_lgle, br_lggt, br_lglt, br_lgeq, br_zb, br_zb1, bV_s, bI_s, bL_s, zo_n, zo_s]⟩
      · rw [br_leF (by omega) (by omega), if_pos (by omega)]
        exact ⟨f, _, rfl, by omega, ⟨rfl, fun c hc => by simp (disch := omega) only [w_ne, w_at, wl_ne, wl_at, wc_ne, wc_at, upd_at, upd_ne, upl_at, upl_ne, cpy_in0, zn_cl, zn_add, zn_mul, zn_sub, zn_pm, br_tt, br_ff, br_ltT, br_ltF, br_leT, br_leF, br_eqT, br_eqF, br_eqs, br_eqm, br_eqm', br_ltm, br_mlt, br_lem, br_mle, br_oiF, br_lgge, br_lgle, br_lggt, br_lglt, br_lgeq, br_zb, br_zb1, bV_s, bI_s, bL_s, zo_n, zo_s], fun i hi => by simp (disch := omega) only [w_ne, w_at, wl_ne, wl_at, wc_ne, wc_at, upd_at, upd_ne, upl_at, upl_ne, cpy_in0, zn_cl, zn_add, zn_mul, zn_sub, zn_pm, br_tt, br_ff, br_ltT, br_ltF, br_leT, br_leF, br_eqT, br_eqF, br_eqs, br_eqm, br_eqm', br_ltm, br_mlt, br_lem, br_mle, br_oiF, br_lgge, br_lgle, br_lggt, br_lglt, br_lgeq, br_zb, br_zb1, bV_s, bI_s, bL_s, zo_n, zo_s]⟩, by simp (disch := omega) only [w_ne, w_at, wl_ne, wl_at, wc_ne, wc_at, upd_at, upd_ne, upl_at, upl_ne, cpy_in0, zn_cl, zn_add, zn_mul, zn_sub, zn_pm, br_tt, br_ff, br_ltT, br_ltF, br_leT, br_leF, br_eqT, br_eqF, br_eqs, br_eqm, br_eqm', br_ltm, br_mlt, br_lem, br_mle, br_oiF, br_lgge, br_lgle, br_lggt, br_lglt, br_lgeq, br_zb, br_zb1, bV_s, bI_s, bL_s, zo_n, zo_s, h3], by simp (disch := omega) only [w_ne, w_at, wl_ne, wl_at, wc_ne, wc_at, upd_at, upd_ne, upl_at, upl_ne, cpy_in0, zn_cl, zn_add, zn_mul, zn_sub, zn_pm, br_tt, br_ff, br_ltT, br_ltF, br_leT, br_leF, br_eqT, br_eqF, br_eqs, br_eqm, br_eqm', br_ltm, br_mlt, br_lem, br_mle, br_oiF, br_lgge, br_lgle, br_lggt, br_lglt, br_lgeq, br_zb, br_zb1, bV_s, bI_s, bL_s, zo_n, zo_s, h5], by simp (disch := omega) only [w_ne, w_at, wl_ne, wl_at, wc_ne, wc_at, upd_at, upd_ne, upl_at, upl_ne, cpy_in0, zn_cl, zn_add, zn_mul, zn_sub, zn_pm, br_tt, br_ff, br_ltT, br_ltF, br_leT, br_leF, br_eqT, br_eqF, br_eqs, br_eqm, br_eqm', br_ltm, br_mlt, br_lem, br_mle, br_oiF, br_lgge, br_lgle, br_lggt, br_lglt, br_lgeq, br_zb, br_zb1, bV_s, bI_s, bL_s, zo_n, zo_s, h6], by simp (disch := omega) only [w_ne, w_at, wl_ne, wl_at, wc_ne, wc_at, upd_at, upd_ne, upl_at, upl_ne, cpy_in0, zn_cl, zn_add, zn_mul, zn_sub, zn_pm, br_tt, br_ff, br_ltT, br_ltF, br_leT, br_leF, br_eqT, br_eqF, br_eqs, br_eqm, br_eqm', br_ltm, br_mlt, br_lem, br_mle, br_oiF, br_lgge, br_lgle, br_lggt, br_lglt, br_lgeq, br_zb, br_zb1, bV_s, bI_s, bL_s, zo_n, zo_s]⟩
theorem cwd_lt : ∀ w, w < 25 → cwd.getD w 0 < 1073741824 := by decide
theorem lp_lang {X : Nat → Nat} {n d c : Nat} (hc : c < 2147483648) (r : Nat) : ∀ (w f : Nat) (m : am_M), w + r = 25 → r + 1 < f → tC2 X n m → m.1 2 4 = zn 25 → m.1 2 6 = zn c →
    ∃ m', r_Scanner_readWord_110 d f (zn w) m = some (none, m') ∧ m'.2 = m.2 ∧ (∀ p, p ≠ 2 → m'.1 p = m.1 p) ∧ (∀ i, i ≠ 4 → m'.1 2 i = m.1 2 i) ∧ m'.1 2 4 = zn (kx c r w) := by
  induction r with
  | zero =>
    intro w f m h1 h2 h h4 h6
    obtain ⟨f, rfl⟩ : ∃ g, f = g + 1 := ⟨f - 1, by omega⟩
    refine ⟨m, ?_, rfl, fun _ _ => rfl, fun _ _ => rfl, h4⟩
    rw [e_Scanner_readWord_110, br_leT (by omega) (by omega)]
  | succ r ih =>
    intro w f m h1 h2 h h4 h6
    obtain ⟨f, rfl⟩ : ∃ g, f = g + 1 := ⟨f - 1, by omega⟩
    have hw := cwd_lt w (by omega)
    rw [e_Scanner_readWord_110, br_leF (by omega) (by omega), h4, br_eqT rfl, br_oiF (by omega) (by omega), zn_cl (by omega), h.w w (by omega), h6, kx, zn_add]
    by_cases g : cwd.getD w 0 = c
    · obtain ⟨f, rfl⟩ : ∃ g, f = g + 1 := ⟨f - 1, by omega⟩
      rw [br_eqT g, if_pos g]
      refine ⟨(am_w m.1 2 4 (zn w), m.2), ?_, rfl, fun p hp => by simp (disch := omega) only [w_ne, w_at, wl_ne, wl_at, wc_ne, wc_at, upd_at, upd_ne, upl_at, upl_ne, cpy_in0, zn_cl, zn_add, zn_mul, zn_sub, zn_pm, br_tt, br_ff, br_ltT, br_ltF, br_leT, br_leF, br_eqT, br_eqF, br_eqs, br_eqm, br_eqm', br_ltm, br_mlt, br_lem, br_mle, br_oiF, br_lgge, br_lgle, br_lggt, br_lglt, br_lgeq, br_zb, br_zb1, bV_s, bI_s, bL_s, zo_n, zo_s], fun i hi => by simp (disch := omega) only [w_ne, w_at, wl_ne, wl_at, wc_ne, wc_at, upd_at, upd_ne, upl_at, upl_ne, cpy_in0, zn_cl, zn_add, zn_mul, zn_sub, zn_pm, br_tt, br_ff, br_ltT, br_ltF, br_leT, br_leF, br_eqT, br_eqF, br_eqs, br_eqm, br_eqm', br_ltm, br_mlt, br_lem, br_mle, br_oiF, br_lgge, br_lgle, br_lggt, br_lglt, br_lgeq, br_zb, br_zb1, bV_s, bI_s, bL_s, zo_n, zo_s], by simp (disch := omega) only [w_ne, w_at, wl_ne, wl_at, wc_ne, wc_at, upd_at, upd_ne, upl_at, upl_ne, cpy_in0, zn_cl, zn_add, zn_mul, zn_sub, zn_pm, br_tt, br_ff, br_ltT, br_ltF, br_leT, br_leF, br_eqT, br_eqF, br_eqs, br_eqm, br_eqm', br_ltm, br_mlt, br_lem, br_mle, br_oiF, br_lgge, br_lgle, br_lggt, br_lglt, br_lgeq, br_zb, br_zb1, bV_s, bI_s, bL_s, zo_n, zo_s]⟩
      have e4 : ((am_w m.1 2 4 (zn w), m.2) : am_M).1 2 4 = zn w := by simp (disch := omega) only [w_ne, w_at, wl_ne, wl_at, wc_ne, wc_at, upd_at, upd_ne, upl_at, upl_ne, cpy_in0, zn_cl, zn_add, zn_mul, zn_sub, zn_pm, br_tt, br_ff, br_ltT, br_ltF, br_leT, br_leF, br_eqT, br_eqF, br_eqs, br_eqm, br_eqm', br_ltm, br_mlt, br_lem, br_mle, br_oiF, br_lgge, br_lgle, br_lggt, br_lglt, br_lgeq, br_zb, br_zb1, bV_s, bI_s, bL_s, zo_n, zo_s]
      rw [e_Scanner_readWord_110, e4, br_eqF (show w ≠ 25 by omega) (by omega) (by omega)]
      by_cases g2 : 25 ≤ w + 1
      · rw [br_leT g2 (by omega)]
      · rw [br_leF (by omega) (by omega)]
    · rw [br_eqF g (by omega) (by omega), if_neg g]
      exact ih (w + 1) f m (by omega) (by omega) h h4 h6
theorem lp_num {X : Nat → Nat} {n d : Nat} (r : Nat) : ∀ (p f v : Nat) (m : am_M), p + r = n → r < f → v ≤ 1000000 → tC2 X n m → m.1 2 3 = zn p → m.1 2 7 = zn v →
    ∃ m', r_Scanner_readNumber_11 (d + 1) f m = some (none, m') ∧ m'.2 = m.2 ∧ (∀ c, c ≠ 2 → m'.1 c = m.1 c) ∧ (∀ i, i ≠ 3 → i ≠ 7 → m'.1 2 i = m.1 2 i) ∧ m'.1 2 3 = zn (rn_ (fun j => dgi (X j)) r p) ∧ m'.1 2 7 = zn (nv X (rn_ (fun j => dgi (X j)) r p - p) p v) := by
  induction r with
  | zero =>
    intro p f v m h1 h2 hv h h3 h7
    obtain ⟨f, rfl⟩ : ∃ g, f = g + 1 := ⟨f - 1, by omega⟩
    have := h.n
    refine ⟨m, ?_, rfl, fun _ _ => rfl, fun _ _ _ => rfl, h3, by rw [rn_, Nat.sub_self]; exact h7⟩
    rw [e_Scanner_readNumber_11, h.l, h3, br_leT (by omega) (by omega)]
  | succ r ih =>
    intro p f v m h1 h2 hv h h3 h7
    have hn := h.n; have hx := h.x p (by omega)
    obtain ⟨f, rfl⟩ : ∃ g, f = g + 1 := ⟨f - 1, by omega⟩
    rw [rn_, e_Scanner_readNumber_11, h.l, h3, br_leF (by omega) (by omega), s_isD h (by omega), bI_s, br_zb, h3]
    by_cases g : dgi (X p) = true
    · have gd : 48 ≤ X p ∧ X p ≤ 57 := of_decide_eq_true g
      have f0 : fk m (am_w (am_w m.1 2 7 (zn (min 1000000 (v * 10 + X p - 48)))) 2 3 (zn (p + 1)), m.2) := ⟨rfl, fun c hc => by simp (disch := omega) only [w_ne, w_at, wl_ne, wl_at, wc_ne, wc_at, upd_at, upd_ne, upl_at, upl_ne, cpy_in0, zn_cl, zn_add, zn_mul, zn_sub, zn_pm, br_tt, br_ff, br_ltT, br_ltF, br_leT, br_leF, br_eqT, br_eqF, br_eqs, br_eqm, br_eqm', br_ltm, br_mlt, br_lem, br_mle, br_oiF, br_lgge, br_lgle, br_lggt, br_lglt, br_lgeq, br_zb, br_zb1, bV_s, bI_s, bL_s, zo_n, zo_s], fun i hi => by simp (disch := omega) only [w_ne, w_at, wl_ne, wl_at, wc_ne, wc_at, upd_at, upd_ne, upl_at, upl_ne, cpy_in0, zn_cl, zn_add, zn_mul, zn_sub, zn_pm, br_tt, br_ff, br_ltT, br_ltF, br_leT, br_leF, br_eqT, br_eqF, br_eqs, br_eqm, br_eqm', br_ltm, br_mlt, br_lem, br_mle, br_oiF, br_lgge, br_lgle, br_lggt, br_lglt, br_lgeq, br_zb, br_zb1, bV_s, bI_s, bL_s, zo_n, zo_s]⟩
      obtain ⟨m', b1, b2, b3, b4, b5, b6⟩ := ih (p + 1) f (min 1000000 (v * 10 + X p - 48)) (am_w (am_w m.1 2 7 (zn (min 1000000 (v * 10 + X p - 48)))) 2 3 (zn (p + 1)), m.2) (by omega) (by omega) (Nat.min_le_left _ _) (h.to f0) (by simp (disch := omega) only [w_ne, w_at, wl_ne, wl_at, wc_ne, wc_at, upd_at, upd_ne, upl_at, upl_ne, cpy_in0, zn_cl, zn_add, zn_mul, zn_sub, zn_pm, br_tt, br_ff, br_ltT, br_ltF, br_leT, br_leF, br_eqT, br_eqF, br_eqs, br_eqm, br_eqm', br_ltm, br_mlt, br_lem, br_mle, br_oiF, br_lgge, br_lgle, br_lggt, br_lglt, br_lgeq, br_zb, br_zb1, bV_s, bI_s, bL_s, zo_n, zo_s]) (by simp (disch := omega) only [w_ne, w_at, wl_ne, wl_at, wc_ne, wc_at, upd_at, upd_ne, upl_at, upl_ne, cpy_in0, zn_cl, zn_add, zn_mul, zn_sub, zn_pm, br_tt, br_ff, br_ltT, br_ltF, br_leT, br_leF, br_eqT, br_eqF, br_eqs, br_eqm, br_eqm', br_ltm, br_mlt, br_lem, br_mle, br_oiF, br_lgge, br_lgle, br_lggt, br_lglt, br_lgeq, br_zb, br_zb1, bV_s, bI_s, bL_s, zo_n, zo_s])
      have hr := (rn_le (P := fun j => dgi (X j)) r (p + 1)).1
      rw [if_pos g, if_pos g]
      refine ⟨m', ?_, b2, fun c hc => by rw [b3 c hc]; simp (disch := omega) only [w_ne, w_at, wl_ne, wl_at, wc_ne, wc_at, upd_at, upd_ne, upl_at, upl_ne, cpy_in0, zn_cl, zn_add, zn_mul, zn_sub, zn_pm, br_tt, br_ff, br_ltT, br_ltF, br_leT, br_leF, br_eqT, br_eqF, br_eqs, br_eqm, br_eqm', br_ltm, br_mlt, br_lem, br_mle, br_oiF, br_lgge, br_lgle, br_lggt, br_lglt, br_lgeq, br_zb, br_zb1, bV_s, bI_s, bL_s, zo_n, zo_s], fun i i1 i2 => by rw [b4 i i1 i2]; simp (disch := omega) only [w_ne, w_at, wl_ne, wl_at, wc_ne, wc_at, upd_at, upd_ne, upl_at, upl_ne, cpy_in0, zn_cl, zn_add, zn_mul, zn_sub, zn_pm, br_tt, br_ff, br_ltT, br_ltF, br_leT, br_leF, br_eqT, br_eqF, br_eqs, br_eqm, br_eqm', br_ltm, br_mlt, br_lem, br_mle, br_oiF, br_lgge, br_lgle, br_lggt, br_lglt, br_lgeq, br_zb, br_zb1, bV_s, bI_s, bL_s, zo_n, zo_s], b5, ?_⟩
      · rw [br_oiF (by omega) (by omega), zn_cl (by omega), h7, h.b p (by omega), (sb_ok _ hx).1 (by omega), zn_mul, zn_add, zn_sub (by omega), zn_min (by omega) (by omega), zn_add, b1]
      · rw [b6, show rn_ (fun j => dgi (X j)) r (p + 1) - p = rn_ (fun j => dgi (X j)) r (p + 1) - (p + 1) + 1 from by omega, nv]
    · rw [if_neg g, if_neg g, Nat.sub_self]
      exact ⟨m, rfl, rfl, fun _ _ => rfl, fun _ _ _ => rfl, h3, h7⟩
