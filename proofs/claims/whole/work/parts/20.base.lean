/-! base of the pure part: calls, rows of the memory, small numbers -/
def am_c (d y : Nat) (vs : List Value) (m : am_M) : am_R := am_call am_G am_MT 30000 d y vs m
def sc_k (k : Nat) : Prop := k = 52 ∨ k = 59 ∨ k = 71 ∨ k = 78 ∨ k = 85
theorem sc_lo {k : Nat} (h : sc_k k) : 52 ≤ k ∧ k ≤ 85 := by
  rcases h with rfl | rfl | rfl | rfl | rfl <;> omega
/-- a row of the memory set -/
def am_sr (f : Nat → Nat → Int32) (a : Nat) (g : Nat → Int32) : Nat → Nat → Int32 := fun b => if b = a then g else f b
def am_sl (f : Nat → Nat → Int64) (a : Nat) (g : Nat → Int64) : Nat → Nat → Int64 := fun b => if b = a then g else f b
theorem am_w_sr (f : Nat → Nat → Int32) (a i : Nat) (x : Int32) : am_w f a i x = am_sr f a (upd (f a) i x) := rfl
theorem am_wl_sr (f : Nat → Nat → Int64) (a i : Nat) (x : Int64) : am_wl f a i x = am_sl f a (vp_updL (f a) i x) := rfl
theorem am_wc_sr (f : Nat → Nat → Int32) (a0 a sp dp n : Nat) : am_wc f a0 a sp dp n = am_sr f a (va_cpy (f a0) (f a) sp dp n) := rfl
theorem sr_same (f : Nat → Nat → Int32) (a : Nat) (g : Nat → Int32) : am_sr f a g a = g := if_pos rfl
theorem sr_ne {f : Nat → Nat → Int32} {a b : Nat} {g : Nat → Int32} (h : b ≠ a) : am_sr f a g b = f b := if_neg h
theorem sl_same (f : Nat → Nat → Int64) (a : Nat) (g : Nat → Int64) : am_sl f a g a = g := if_pos rfl
theorem sl_ne {f : Nat → Nat → Int64} {a b : Nat} {g : Nat → Int64} (h : b ≠ a) : am_sl f a g b = f b := if_neg h
theorem sr_sr (f : Nat → Nat → Int32) (a : Nat) (g g' : Nat → Int32) : am_sr (am_sr f a g) a g' = am_sr f a g' := by
  funext b; unfold am_sr; by_cases h : b = a <;> simp [h]
theorem sl_sl (f : Nat → Nat → Int64) (a : Nat) (g g' : Nat → Int64) : am_sl (am_sl f a g) a g' = am_sl f a g' := by
  funext b; unfold am_sl; by_cases h : b = a <;> simp [h]
theorem sr_self (f : Nat → Nat → Int32) (a : Nat) : am_sr f a (f a) = f := by
  funext b; unfold am_sr; by_cases h : b = a <;> simp [h]
theorem sl_self (f : Nat → Nat → Int64) (a : Nat) : am_sl f a (f a) = f := by
  funext b; unfold am_sl; by_cases h : b = a <;> simp [h]
theorem sr_comm {f : Nat → Nat → Int32} {a b : Nat} {g h : Nat → Int32} (hab : a ≠ b) : am_sr (am_sr f a g) b h = am_sr (am_sr f b h) a g := by
  funext c; unfold am_sr
  by_cases h1 : c = a
  · subst h1; simp [hab]
  · by_cases h2 : c = b
    · subst h2; simp [h1]
    · simp [h1, h2]
theorem upd_same (f : Nat → Int32) (i : Nat) (x : Int32) : upd f i x i = x := if_pos rfl
theorem upd_ne {f : Nat → Int32} {i j : Nat} {x : Int32} (h : j ≠ i) : upd f i x j = f j := if_neg h
theorem upl_same (f : Nat → Int64) (i : Nat) (x : Int64) : vp_updL f i x i = x := if_pos rfl
theorem upl_ne {f : Nat → Int64} {i j : Nat} {x : Int64} (h : j ≠ i) : vp_updL f i x j = f j := if_neg h
theorem cpy_in {f g : Nat → Int32} {n i : Nat} (h : i < n) : va_cpy f g 0 0 n i = f i := by
  unfold va_cpy; rw [if_pos ⟨Nat.zero_le _, by omega⟩]; congr 1; omega
theorem cpy_out {f g : Nat → Int32} {n i : Nat} (h : n ≤ i) : va_cpy f g 0 0 n i = g i := by
  unfold va_cpy; rw [if_neg (by omega)]
/-! small numbers -/
theorem bz_cl {a : Nat} (h : a < 2147483648) : (Int32.ofNat a).toNatClampNeg = a := Int32.toNatClampNeg_ofNat_of_lt h
theorem bz_lt {a b : Nat} (ha : a < 2147483648) (hb : b < 2147483648) : am_lt (Int32.ofNat a) (Int32.ofNat b) = decide (a < b) := by
  unfold am_lt; rw [decide_eq_decide]; exact Int32.ofNat_lt_iff_lt ha hb
theorem bz_le {a b : Nat} (ha : a < 2147483648) (hb : b < 2147483648) : am_le (Int32.ofNat a) (Int32.ofNat b) = decide (a ≤ b) := by
  unfold am_le; rw [decide_eq_decide]; exact Int32.ofNat_le_iff_le ha hb
theorem bz_inj {a b : Nat} (ha : a < 2147483648) (hb : b < 2147483648) : Int32.ofNat a = Int32.ofNat b ↔ a = b := by
  constructor
  · intro h
    have := congrArg Int32.toNatClampNeg h
    rwa [bz_cl ha, bz_cl hb] at this
  · intro h; rw [h]
theorem bz_eq {a b : Nat} (ha : a < 2147483648) (hb : b < 2147483648) : am_eq (Int32.ofNat a) (Int32.ofNat b) = decide (a = b) := by
  unfold am_eq; rw [decide_eq_decide]; exact bz_inj ha hb
theorem bz_nn {a : Nat} (h : a < 2147483648) : ¬ Int32.ofNat a < 0 := by
  have h0 : (0 : Int32) = Int32.ofNat 0 := rfl
  rw [h0, Int32.ofNat_lt_iff_lt h (by omega)]
  omega
theorem bz_oi {a n : Nat} (h : a < 2147483648) : am_oi (Int32.ofNat a) n = decide (n ≤ a) := by
  unfold am_oi
  rw [bz_cl h, decide_eq_false (bz_nn h), Bool.false_or]
theorem bz_s (a : Nat) : Int32.ofNat a + 1 = Int32.ofNat (a + 1) := (Int32.ofNat_add a 1).symm
theorem bz_a (a b : Nat) : Int32.ofNat a + Int32.ofNat b = Int32.ofNat (a + b) := (Int32.ofNat_add a b).symm
theorem bz_m (a b : Nat) : Int32.ofNat a * Int32.ofNat b = Int32.ofNat (a * b) := (Int32.ofNat_mul a b).symm
theorem bz_d {a b : Nat} (h : b ≤ a) : Int32.ofNat a - Int32.ofNat b = Int32.ofNat (a - b) := (Int32.ofNat_sub a b h).symm
theorem bz_0 : (0 : Int32) = Int32.ofNat 0 := rfl
theorem bz_ne {a : Nat} (h : a < 2147483648) : Int32.ofNat a ≠ -1 := by
  intro h1
  have h2 := bz_nn h
  rw [h1] at h2
  exact h2 (by decide)
theorem bz_em {a : Nat} (h : a < 2147483648) : am_eq (Int32.ofNat a) (-1) = false := by
  unfold am_eq; exact decide_eq_false (bz_ne h)
/-- a number or none -/
def zo (o : Option Nat) : Int32 := match o with
  | none => -1
  | some j => Int32.ofNat j
theorem bz_tt (t f : am_R) : am_br true t f = t := rfl
theorem bz_ff (t f : am_R) : am_br false t f = f := rfl
theorem bz_bt {c : Bool} {t f : am_R} (h : c = true) : am_br c t f = t := by rw [h]
theorem bz_bf {c : Bool} {t f : am_R} (h : c = false) : am_br c t f = f := by rw [h]
theorem bz_if (c : Bool) (t f : am_R) : am_br c t f = if c = true then t else f := by cases c <;> rfl
def am_iabs (x : Int32) : Int32 := if 0 ≤ x then x else 0 - x
def am_imax (x y : Int32) : Int32 := if x < y then y else x
def am_imin (x y : Int32) : Int32 := if y < x then y else x
def am_labs (x : Int64) : Int64 := if 0 < x then x else -x
def am_lmax (x y : Int64) : Int64 := if y < x then x else y
def am_lmin (x y : Int64) : Int64 := if y < x then y else x
def am_rem (x y : Int32) : Int32 := x - x / y * y
def am_reml (x y : Int64) : Int64 := x - x / y * y
/-! tests that are decided -/
theorem bz_oiF {a n : Nat} (h : a < n) (hn : n < 2147483648) : am_oi (Int32.ofNat a) n = false := by
  rw [bz_oi (by omega)]; exact decide_eq_false (by omega)
theorem bz_ltT {a b : Nat} (h : a < b) (hb : b < 2147483648) : am_lt (Int32.ofNat a) (Int32.ofNat b) = true := by
  rw [bz_lt (by omega) hb]; exact decide_eq_true h
theorem bz_ltF {a b : Nat} (h : b ≤ a) (ha : a < 2147483648) : am_lt (Int32.ofNat a) (Int32.ofNat b) = false := by
  rw [bz_lt ha (by omega)]; exact decide_eq_false (by omega)
theorem bz_leT {a b : Nat} (h : a ≤ b) (hb : b < 2147483648) : am_le (Int32.ofNat a) (Int32.ofNat b) = true := by
  rw [bz_le (by omega) hb]; exact decide_eq_true h
theorem bz_leF {a b : Nat} (h : b < a) (ha : a < 2147483648) : am_le (Int32.ofNat a) (Int32.ofNat b) = false := by
  rw [bz_le ha (by omega)]; exact decide_eq_false (by omega)
theorem bz_eqT {a b : Nat} (h : a = b) : am_eq (Int32.ofNat a) (Int32.ofNat b) = true := by
  subst h; exact decide_eq_true rfl
theorem bz_eqF {a b : Nat} (h : a ≠ b) (ha : a < 2147483648) (hb : b < 2147483648) : am_eq (Int32.ofNat a) (Int32.ofNat b) = false := by
  rw [bz_eq ha hb]; exact decide_eq_false h
theorem bz_mm : am_eq (-1) (-1) = true := rfl
theorem bz_mlt {a : Nat} (h : a < 2147483648) : am_lt (-1) (Int32.ofNat a) = true := by
  unfold am_lt; refine decide_eq_true ?_
  have h1 : (0 : Int32) ≤ Int32.ofNat a := by
    have := bz_nn h
    rw [Int32.lt_iff_toInt_lt] at this
    rw [Int32.le_iff_toInt_le]; omega
  rw [Int32.lt_iff_toInt_lt]
  rw [Int32.le_iff_toInt_le] at h1
  have h2 : (-1 : Int32).toInt = -1 := rfl
  have h3 : (0 : Int32).toInt = 0 := rfl
  omega
theorem bz_ltm {a : Nat} (h : a < 2147483648) : am_lt (Int32.ofNat a) (-1) = false := by
  unfold am_lt; refine decide_eq_false ?_
  have h1 := bz_mlt h
  unfold am_lt at h1
  have h2 := of_decide_eq_true h1
  rw [Int32.lt_iff_toInt_lt] at h2 ⊢
  omega
theorem bz_lem {a : Nat} (h : a < 2147483648) : am_le (Int32.ofNat a) (-1) = false := by
  unfold am_le; refine decide_eq_false ?_
  have h1 := bz_mlt h
  unfold am_lt at h1
  have h2 := of_decide_eq_true h1
  rw [Int32.lt_iff_toInt_lt] at h2
  rw [Int32.le_iff_toInt_le]
  omega
theorem bz_mle {a : Nat} (h : a < 2147483648) : am_le (-1) (Int32.ofNat a) = true := by
  unfold am_le; refine decide_eq_true ?_
  have h1 := bz_mlt h
  unfold am_lt at h1
  have h2 := of_decide_eq_true h1
  rw [Int32.lt_iff_toInt_lt] at h2
  rw [Int32.le_iff_toInt_le]
  omega
theorem bz_p {a : Nat} (h : 1 ≤ a) : Int32.ofNat a + (-1) = Int32.ofNat (a - 1) := by
  obtain ⟨b, rfl⟩ : ∃ b, a = b + 1 := ⟨a - 1, by omega⟩
  rw [Int32.ofNat_add, Int32.add_assoc]
  have : Int32.ofNat 1 + (-1) = 0 := rfl
  rw [this, Int32.add_zero]; rfl
theorem lc_ge (x y : Int64) : am_le (Int32.ofNat 0) (lg_cmp x y) = decide (y ≤ x) := by
  unfold am_le; rw [decide_eq_decide]; exact lg_cmp_ge x y
theorem lc_le (x y : Int64) : am_le (lg_cmp x y) (Int32.ofNat 0) = decide (x ≤ y) := by
  unfold am_le; rw [decide_eq_decide]; exact lg_cmp_le x y
theorem lc_gt (x y : Int64) : am_lt (Int32.ofNat 0) (lg_cmp x y) = decide (y < x) := by
  unfold am_lt; rw [decide_eq_decide]; exact lg_cmp_gt x y
theorem lc_lt (x y : Int64) : am_lt (lg_cmp x y) (Int32.ofNat 0) = decide (x < y) := by
  unfold am_lt; rw [decide_eq_decide]; exact lg_cmp_lt x y
theorem lc_eq (x y : Int64) : am_eq (lg_cmp x y) (Int32.ofNat 0) = decide (x = y) := by
  unfold am_eq; rw [decide_eq_decide]; exact lg_cmp_eq x y
/-- how far apart -/
def sp_ap (a b : Nat) : Nat := if a < b then b - a else a - b
theorem bz_iabs {a b : Nat} (ha : a < 1073741824) (hb : b < 1073741824) : am_iabs (Int32.ofNat a - Int32.ofNat b) = Int32.ofNat (sp_ap a b) := by
  have e1 : (Int32.ofNat a).toInt = a := Int32.toInt_ofNat_of_lt (by omega)
  have e2 : (Int32.ofNat b).toInt = b := Int32.toInt_ofNat_of_lt (by omega)
  have e0 : (0 : Int32).toInt = 0 := rfl
  have e3 : (Int32.ofNat a - Int32.ofNat b).toInt = (a : Int) - b := by
    rw [Int32.toInt_sub, e1, e2]
    exact Int.bmod_eq_of_le (by omega) (by omega)
  unfold am_iabs sp_ap
  by_cases h : a < b
  · rw [if_pos h, if_neg (by rw [Int32.le_iff_toInt_le, e3, e0]; omega)]
    apply Int32.toInt_inj.mp
    rw [Int32.toInt_sub, e3, e0, Int32.toInt_ofNat_of_lt (by omega)]
    rw [Int.bmod_eq_of_le (by omega) (by omega)]
    omega
  · rw [if_neg h, if_pos (by rw [Int32.le_iff_toInt_le, e3, e0]; omega), Int32.ofNat_sub _ _ (by omega)]
/-! the first least one -/
def sp_min (p : Nat → Bool) (f : Nat → Int64) : Nat → Nat → Option Nat → Option Nat
  | 0, _, acc => acc
  | k + 1, i, acc => sp_min p f k (i + 1) (if p i = true then (match acc with
    | none => some i
    | some j => if f i < f j then some i else some j) else acc)
/-- a place of a row taken out -/
def sp_sh (r : Nat → Int32) : Nat → Nat → (Nat → Int32)
  | 0, _ => r
  | k + 1, i => sp_sh (upd r i (r (i + 1))) k (i + 1)
