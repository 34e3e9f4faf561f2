/-! base of the pure part: calls, memory, small numbers -/
theorem fu_ex : ∃ F : Nat, F = 29999 + 1 := ⟨_, rfl⟩
noncomputable def fu : Nat := Classical.choose fu_ex
theorem fu_eq : fu = 29999 + 1 := Classical.choose_spec fu_ex
noncomputable def am_c (d : Nat) : Nat → List Value → am_M → am_R := am_call am_G am_MT fu d
def am_b (c : Bool) (t f : am_R) : am_R := am_br c t f
def sc_k (k : Nat) : Prop := k = 52 ∨ k = 59 ∨ k = 71 ∨ k = 78 ∨ k = 85
theorem sc_lo {k : Nat} (h : sc_k k) : 52 ≤ k ∧ k ≤ 85 := by
  rcases h with rfl | rfl | rfl | rfl | rfl <;> omega
theorem sc_sp {k j : Nat} (hk : sc_k k) (hj : sc_k j) (h : k ≠ j) : k + 7 ≤ j ∨ j + 7 ≤ k := by
  rcases hk with rfl | rfl | rfl | rfl | rfl <;> rcases hj with rfl | rfl | rfl | rfl | rfl <;> omega
/-- small numbers -/
def zn (a : Nat) : Int32 := Int32.ofNat a
def zm : Int32 := -1
def zq : Int32 := -2
def lmin : Int64 := -9223372036854775808
def zo : Option Nat → Int32
  | none => zm
  | some j => zn j
def zb : Bool → Int32
  | true => zn 1
  | false => zn 0
def am_iabs (x : Int32) : Int32 := if 0 ≤ x then x else 0 - x
def am_imax (x y : Int32) : Int32 := if x < y then y else x
def am_imin (x y : Int32) : Int32 := if y < x then y else x
def am_labs (x : Int64) : Int64 := if 0 < x then x else -x
def am_lmax (x y : Int64) : Int64 := if y < x then x else y
def am_lmin (x y : Int64) : Int64 := if y < x then y else x
def am_rem (x y : Int32) : Int32 := x - x / y * y
def am_reml (x y : Int64) : Int64 := x - x / y * y
/-! memory -/
theorem w_ne {f : Nat → Nat → Int32} {a i b : Nat} {x : Int32} (h : b ≠ a) : am_w f a i x b = f b := if_neg h
theorem w_at (f : Nat → Nat → Int32) (a i : Nat) (x : Int32) : am_w f a i x a = upd (f a) i x := if_pos rfl
theorem wl_ne {f : Nat → Nat → Int64} {a i b : Nat} {x : Int64} (h : b ≠ a) : am_wl f a i x b = f b := if_neg h
theorem wl_at (f : Nat → Nat → Int64) (a i : Nat) (x : Int64) : am_wl f a i x a = vp_updL (f a) i x := if_pos rfl
theorem wc_ne {f : Nat → Nat → Int32} {a0 a sp dp n b : Nat} (h : b ≠ a) : am_wc f a0 a sp dp n b = f b := if_neg h
theorem wc_at (f : Nat → Nat → Int32) (a0 a sp dp n : Nat) : am_wc f a0 a sp dp n a = va_cpy (f a0) (f a) sp dp n := if_pos rfl
theorem upd_at (f : Nat → Int32) (i : Nat) (x : Int32) : upd f i x i = x := if_pos rfl
theorem upd_ne {f : Nat → Int32} {i j : Nat} {x : Int32} (h : j ≠ i) : upd f i x j = f j := if_neg h
theorem upl_at (f : Nat → Int64) (i : Nat) (x : Int64) : vp_updL f i x i = x := if_pos rfl
theorem upl_ne {f : Nat → Int64} {i j : Nat} {x : Int64} (h : j ≠ i) : vp_updL f i x j = f j := if_neg h
theorem cpy_in {f g : Nat → Int32} {sp dp n i : Nat} (h : dp ≤ i ∧ i < dp + n) : va_cpy f g sp dp n i = f (sp + (i - dp)) := if_pos h
theorem cpy_in0 {f g : Nat → Int32} {n i : Nat} (h : i < n) : va_cpy f g 0 0 n i = f i := by
  rw [cpy_in (by omega)]; congr 1; omega
theorem cpy_out {f g : Nat → Int32} {sp dp n i : Nat} (h : ¬(dp ≤ i ∧ i < dp + n)) : va_cpy f g sp dp n i = g i := if_neg h
/-! numbers -/
theorem zn_cl {a : Nat} (h : a < 2147483648) : (zn a).toNatClampNeg = a := Int32.toNatClampNeg_ofNat_of_lt h
theorem zn_i {a : Nat} (h : a < 2147483648) : (zn a).toInt = a := Int32.toInt_ofNat_of_lt h
theorem zm_i : zm.toInt = -1 := rfl
theorem zn_add (a b : Nat) : zn a + zn b = zn (a + b) := (Int32.ofNat_add a b).symm
theorem zn_mul (a b : Nat) : zn a * zn b = zn (a * b) := (Int32.ofNat_mul a b).symm
theorem zn_sub {a b : Nat} (h : b ≤ a) : zn a - zn b = zn (a - b) := (Int32.ofNat_sub a b h).symm
theorem zn_pm {a : Nat} (h : 1 ≤ a) : zn a + zm = zn (a - 1) := by
  obtain ⟨b, rfl⟩ : ∃ b, a = b + 1 := ⟨a - 1, by omega⟩
  have e : zn (b + 1) = zn b + 1 := Int32.ofNat_add b 1
  have e1 : (1 : Int32) + zm = 0 := rfl
  rw [e, Int32.add_assoc, e1, Int32.add_zero]; rfl
theorem zn_inj {a b : Nat} (ha : a < 2147483648) (hb : b < 2147483648) : zn a = zn b ↔ a = b := by
  constructor
  · intro h
    have := congrArg Int32.toNatClampNeg h
    rwa [zn_cl ha, zn_cl hb] at this
  · intro h; rw [h]
theorem zn_zm {a : Nat} (h : a < 2147483648) : zn a ≠ zm := by
  intro e
  have e2 := congrArg Int32.toInt e
  rw [zn_i h, zm_i] at e2
  omega
theorem zo_inj {o p : Option Nat} (ho : ∀ a, o = some a → a < 2147483648) (hp : ∀ a, p = some a → a < 2147483648) : zo o = zo p ↔ o = p := by
  constructor
  · intro h
    cases o with
    | none =>
      cases p with
      | none => rfl
      | some b => exact absurd h.symm (zn_zm (hp b rfl))
    | some a =>
      cases p with
      | none => exact absurd h (zn_zm (ho a rfl))
      | some b => rw [(zn_inj (ho a rfl) (hp b rfl)).mp h]
  · intro h; rw [h]
theorem i32_cases (x : Int32) : (∃ a, a < 2147483648 ∧ x = zn a) ∨ x.toInt < 0 := by
  rcases Int.lt_or_le x.toInt 0 with h | h
  · exact Or.inr h
  · refine Or.inl ⟨x.toInt.toNat, ?_, ?_⟩
    · have := Int32.toInt_lt x; omega
    · apply Int32.toInt_inj.mp
      rw [zn_i (by have := Int32.toInt_lt x; omega)]; omega
/-! branches -/
theorem br_tt (t f : am_R) : am_b true t f = t := rfl
theorem br_ff (t f : am_R) : am_b false t f = f := rfl
theorem br_if (c : Bool) (t f : am_R) : am_b c t f = if c = true then t else f := by cases c <;> rfl
theorem br_lt (x y : Int32) (t f : am_R) : am_b (am_lt x y) t f = if x.toInt < y.toInt then t else f := by
  rw [br_if]; unfold am_lt; simp only [decide_eq_true_eq, Int32.lt_iff_toInt_lt]
theorem br_le (x y : Int32) (t f : am_R) : am_b (am_le x y) t f = if x.toInt ≤ y.toInt then t else f := by
  rw [br_if]; unfold am_le; simp only [decide_eq_true_eq, Int32.le_iff_toInt_le]
theorem br_eq (x y : Int32) (t f : am_R) : am_b (am_eq x y) t f = if x = y then t else f := by
  rw [br_if]; unfold am_eq; simp only [decide_eq_true_eq]
theorem br_ltT {a b : Nat} {t f : am_R} (h : a < b) (hb : b < 2147483648) : am_b (am_lt (zn a) (zn b)) t f = t := by
  rw [br_lt, zn_i (by omega), zn_i hb, if_pos (by omega)]
theorem br_ltF {a b : Nat} {t f : am_R} (h : b ≤ a) (ha : a < 2147483648) : am_b (am_lt (zn a) (zn b)) t f = f := by
  rw [br_lt, zn_i (by omega), zn_i (by omega), if_neg (by omega)]
theorem br_leT {a b : Nat} {t f : am_R} (h : a ≤ b) (hb : b < 2147483648) : am_b (am_le (zn a) (zn b)) t f = t := by
  rw [br_le, zn_i (by omega), zn_i hb, if_pos (by omega)]
theorem br_leF {a b : Nat} {t f : am_R} (h : b < a) (ha : a < 2147483648) : am_b (am_le (zn a) (zn b)) t f = f := by
  rw [br_le, zn_i (by omega), zn_i (by omega), if_neg (by omega)]
theorem br_eqT {a b : Nat} {t f : am_R} (h : a = b) : am_b (am_eq (zn a) (zn b)) t f = t := by
  rw [br_eq, if_pos (by rw [h])]
theorem br_eqF {a b : Nat} {t f : am_R} (h : a ≠ b) (ha : a < 2147483648) (hb : b < 2147483648) : am_b (am_eq (zn a) (zn b)) t f = f := by
  rw [br_eq, if_neg (by rw [zn_inj ha hb]; exact h)]
theorem br_eqs (x : Int32) (t f : am_R) : am_b (am_eq x x) t f = t := by rw [br_eq, if_pos rfl]
theorem br_eqm {a : Nat} {t f : am_R} (h : a < 2147483648) : am_b (am_eq (zn a) zm) t f = f := by
  rw [br_eq, if_neg (zn_zm h)]
theorem br_eqm' {a : Nat} {t f : am_R} (h : a < 2147483648) : am_b (am_eq zm (zn a)) t f = f := by
  rw [br_eq, if_neg (fun e => zn_zm h e.symm)]
theorem br_ltm {a : Nat} {t f : am_R} (h : a < 2147483648) : am_b (am_lt (zn a) zm) t f = f := by
  rw [br_lt, zn_i h, zm_i, if_neg (by omega)]
theorem br_mlt {a : Nat} {t f : am_R} (h : a < 2147483648) : am_b (am_lt zm (zn a)) t f = t := by
  rw [br_lt, zn_i h, zm_i, if_pos (by omega)]
theorem br_lem {a : Nat} {t f : am_R} (h : a < 2147483648) : am_b (am_le (zn a) zm) t f = f := by
  rw [br_le, zn_i h, zm_i, if_neg (by omega)]
theorem br_mle {a : Nat} {t f : am_R} (h : a < 2147483648) : am_b (am_le zm (zn a)) t f = t := by
  rw [br_le, zn_i h, zm_i, if_pos (by omega)]
theorem br_oi (x : Int32) (n : Nat) (t f : am_R) : am_b (am_oi x n) t f = if x.toInt < 0 ∨ n ≤ x.toNatClampNeg then t else f := by
  rw [br_if]; unfold am_oi
  simp only [Bool.or_eq_true, decide_eq_true_eq, Int32.lt_iff_toInt_lt]
  rfl
theorem br_oiF {a n : Nat} {t f : am_R} (h : a < n) (hn : n < 2147483648) : am_b (am_oi (zn a) n) t f = f := by
  rw [br_oi, zn_i (by omega), zn_cl (by omega), if_neg (by omega)]
theorem br_lgge (x y : Int64) (t f : am_R) : am_b (am_le (zn 0) (lg_cmp x y)) t f = if y ≤ x then t else f := by
  have e : (zn 0 ≤ lg_cmp x y) = (y ≤ x) := propext (lg_cmp_ge x y)
  rw [br_if]; unfold am_le; simp only [decide_eq_true_eq, e]
theorem br_lgle (x y : Int64) (t f : am_R) : am_b (am_le (lg_cmp x y) (zn 0)) t f = if x ≤ y then t else f := by
  have e : (lg_cmp x y ≤ zn 0) = (x ≤ y) := propext (lg_cmp_le x y)
  rw [br_if]; unfold am_le; simp only [decide_eq_true_eq, e]
theorem br_lggt (x y : Int64) (t f : am_R) : am_b (am_lt (zn 0) (lg_cmp x y)) t f = if y < x then t else f := by
  have e : (zn 0 < lg_cmp x y) = (y < x) := propext (lg_cmp_gt x y)
  rw [br_if]; unfold am_lt; simp only [decide_eq_true_eq, e]
theorem br_lglt (x y : Int64) (t f : am_R) : am_b (am_lt (lg_cmp x y) (zn 0)) t f = if x < y then t else f := by
  have e : (lg_cmp x y < zn 0) = (x < y) := propext (lg_cmp_lt x y)
  rw [br_if]; unfold am_lt; simp only [decide_eq_true_eq, e]
theorem br_lgeq (x y : Int64) (t f : am_R) : am_b (am_eq (lg_cmp x y) (zn 0)) t f = if x = y then t else f := by
  have e : (lg_cmp x y = zn 0) = (x = y) := propext (lg_cmp_eq x y)
  rw [br_if]; unfold am_eq; simp only [decide_eq_true_eq, e]
/-- options -/
theorem zo_n : zo none = zm := rfl
theorem zo_s (a : Nat) : zo (some a) = zn a := rfl
theorem br_zoE {o : Option Nat} {t f : am_R} (h : ∀ a, o = some a → a < 2147483648) : am_b (am_eq (zo o) zm) t f = if o = none then t else f := by
  rw [br_eq]
  have e := zo_inj (o := o) (p := none) h (by intro a h; cases h)
  rw [zo_n] at e
  by_cases h1 : o = none
  · rw [if_pos h1, if_pos (e.mpr h1)]
  · rw [if_neg h1, if_neg (fun q => h1 (e.mp q))]
theorem zb_t : zb true = zn 1 := rfl
theorem zb_f : zb false = zn 0 := rfl
theorem br_zb (c : Bool) (t f : am_R) : am_b (am_eq (zb c) (zn 0)) t f = if c = true then f else t := by
  cases c
  · rw [zb_f, br_eqT rfl]; rfl
  · rw [zb_t, br_eqF (by omega) (by omega) (by omega)]; rfl
theorem br_zb1 (c : Bool) (t f : am_R) : am_b (am_eq (zb c) (zn 1)) t f = if c = true then t else f := by
  cases c
  · rw [zb_f, br_eqF (by omega) (by omega) (by omega)]; rfl
  · rw [zb_t, br_eqT rfl]; rfl
/-! what a call hands on -/
theorem bV_s (m : am_M) (f : am_M → am_R) : am_bV (some (none, m)) f = f m := rfl
theorem bI_s (x : Int32) (m : am_M) (f : Int32 → am_M → am_R) : am_bI (some (some (.int x), m)) f = f x m := rfl
theorem bL_s (x : Int64) (m : am_M) (f : Int64 → am_M → am_R) : am_bL (some (some (.long x), m)) f = f x m := rfl
/-- how far apart -/
def sp_ap (a b : Nat) : Nat := if a < b then b - a else a - b
theorem zn_iabs {a b : Nat} (ha : a < 1073741824) (hb : b < 1073741824) : am_iabs (zn a - zn b) = zn (sp_ap a b) := by
  have e0 : (0 : Int32).toInt = 0 := rfl
  have e3 : (zn a - zn b).toInt = (a : Int) - b := by
    rw [Int32.toInt_sub, zn_i (by omega), zn_i (by omega)]
    exact Int.bmod_eq_of_le (by omega) (by omega)
  unfold am_iabs sp_ap
  by_cases h : a < b
  · rw [if_pos h, if_neg (by rw [Int32.le_iff_toInt_le, e3, e0]; omega)]
    apply Int32.toInt_inj.mp
    rw [Int32.toInt_sub, e3, e0, zn_i (by omega)]
    rw [Int.bmod_eq_of_le (by omega) (by omega)]
    omega
  · rw [if_neg h, if_pos (by rw [Int32.le_iff_toInt_le, e3, e0]; omega), zn_sub (by omega)]
theorem sp_ap_lt {a b n : Nat} (ha : a < n) (hb : b < n) : sp_ap a b < n := by unfold sp_ap; split <;> omega
