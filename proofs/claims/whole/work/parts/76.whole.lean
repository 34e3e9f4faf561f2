/-! whole: how likely, exactly -/
def ib (c i : Nat) : Prop := ((zn c >>> (zn i &&& 31)) &&& zn 1) = zn 1
theorem one_shl : ∀ n, n < 5 → (zn 1) <<< (zn n &&& 31) = zn (2 ^ n) := by decide +kernel
noncomputable def sp_wi (T : Td) (E : Ev) (q : Sq) (c : Nat) : Nat → Nat → Nat → Hs → List Nat → Hs
  | 0, _, _, h, _ => h
  | r + 1, i, day, h, w => if (((zn c >>> (zn i &&& 31)) &&& zn 1) = zn 1) then sp_wi T E q c r (i + 1) (day + 1) (sp_fog T (V0 T) E day q.2.2.1 h w).1 (sp_fog T (V0 T) E day q.2.2.1 h w).2 else sp_wi T E q c r (i + 1) (day + 1) (sp_pass T (V0 T) E q.2.1 day q.1 q.2.2.1 h w).1 (sp_pass T (V0 T) E q.2.1 day q.1 q.2.2.1 h w).2
noncomputable def sp_od (g c : Nat) : Nat → Nat → Nat → Nat
  | 0, _, a => a
  | r + 1, i, a => sp_od g c r (i + 1) (a * if (((zn c >>> (zn i &&& 31)) &&& zn 1) = zn 1) then g else 100 - g)
theorem od_le {g c : Nat} (hg : g ≤ 100) (r : Nat) : ∀ i a b, a ≤ b → sp_od g c r i a ≤ b * 100 ^ r := by
  induction r with
  | zero => intro i a b h; rw [Nat.pow_zero, Nat.mul_one]; exact h
  | succ r ih =>
    intro i a b h
    rw [sp_od]
    refine Nat.le_trans (ih (i + 1) _ (b * 100) (Nat.mul_le_mul h (by split <;> omega))) ?_
    rw [Nat.mul_assoc, Nat.pow_succ, Nat.mul_comm 100 (100 ^ r)]; exact Nat.le_refl _
theorem wi_hw {T : Td} {E : Ev} {q : Sq} {c : Nat} (hm : ∀ p, p ∈ q.2.2.1 → p.1 < T 0 0 ∧ p.2 < T 0 0 ∧ p.1 ≠ p.2) (r : Nat) : ∀ i day h w, hwI (T 0 0) h w → ∃ w', hwI (T 0 0) (sp_wi T E q c r i day h w) w' := by
  induction r with
  | zero => intro i day h w I; exact ⟨w, I⟩
  | succ r ih =>
    intro i day h w I
    rw [sp_wi]
    by_cases g : ((zn c >>> (zn i &&& 31)) &&& zn 1) = zn 1
    · rw [if_pos g]; exact ih _ _ _ _ (fog_hw hm I)
    · rw [if_neg g]; exact ih _ _ _ _ (pass_hw hm I)
/-- the sum over all ways -/
noncomputable def sp_up (T : Td) (E : Ev) (q : Sq) (w : List Nat) (day t n : Nat) : Nat → Nat → Nat → Nat
  | 0, _, a => a
  | r + 1, c, a => sp_up T E q w day t n r (c + 1) (a + if sp_wi T E q c n 0 day q.2.2.2 w t = some t then sp_od (T 0 3) c n 0 1 else 0)
theorem up_le {T : Td} {E : Ev} {q : Sq} {w : List Nat} {day t n : Nat} (hg : T 0 3 ≤ 100) (r : Nat) : ∀ c a, sp_up T E q w day t n r c a ≤ a + r * 100 ^ n := by
  induction r with
  | zero => intro c a; rw [sp_up]; omega
  | succ r ih =>
    intro c a
    rw [sp_up]
    refine Nat.le_trans (ih _ _) ?_
    have h1 : (if sp_wi T E q c n 0 day q.2.2.2 w t = some t then sp_od (T 0 3) c n 0 1 else 0) ≤ 100 ^ n := by
      have := od_le (c := c) hg n 0 1 1 (Nat.le_refl _)
      rw [Nat.one_mul] at this
      split
      · exact this
      · exact Nat.zero_le _
    rw [Nat.succ_mul]; omega
def sp_eu : Nat → Nat → Nat → Nat
  | 0, a, _ => a
  | f + 1, a, b => if b = 0 then a else sp_eu f b (a % b)
theorem eu_gcd (k : Nat) : ∀ f a b, b < 2 ^ k → 2 * k ≤ f → sp_eu f a b = Nat.gcd a b := by
  induction k with
  | zero =>
    intro f a b h1 h2
    rw [Nat.pow_zero] at h1
    have : b = 0 := by omega
    subst this
    rw [Nat.gcd_zero_right]
    cases f with
    | zero => rfl
    | succ f => rw [sp_eu, if_pos rfl]
  | succ k ih =>
    intro f a b h1 h2
    obtain ⟨f, rfl⟩ : ∃ g, f = g + 2 := ⟨f - 2, by omega⟩
    rw [sp_eu]
    by_cases hb : b = 0
    · rw [if_pos hb, hb, Nat.gcd_zero_right]
    · rw [if_neg hb, sp_eu]
      have hr : a % b < b := Nat.mod_lt _ (by omega)
      by_cases hr0 : a % b = 0
      · rw [if_pos hr0, Nat.gcd_comm, Nat.gcd_rec, hr0, Nat.gcd_zero_left]
      · rw [if_neg hr0, ih f (a % b) (b % (a % b)) ?_ (by omega)]
        · rw [Nat.gcd_comm (a % b), ← Nat.gcd_rec, Nat.gcd_comm a b, Nat.gcd_rec b a]
        · have h3 := Nat.div_add_mod b (a % b)
          have h4 : 1 ≤ b / (a % b) := (Nat.le_div_iff_mul_le (by omega)).mpr (by omega)
          have h5 : a % b ≤ (a % b) * (b / (a % b)) := Nat.le_mul_of_pos_right _ (by omega)
          have h6 : b % (a % b) < a % b := Nat.mod_lt _ (by omega)
          rw [Nat.pow_succ] at h1
          omega
/-! the class -/
theorem lp_gd {d : Nat} {x0 x2 : Int64} {m : am_M} (r : Nat) : ∀ i f a b x9, i + r = 100 → r < f → a < 4611686018427387904 → b < 4611686018427387904 → r_C_greatestDivisor_9 d f x0 x2 (ln a) (ln b) (zn i) x9 m = some (some (.long (ln (sp_eu r a b))), m) := by
  induction r with
  | zero =>
    intro i f a b x9 h1 h2 ha hb
    obtain ⟨f, rfl⟩ : ∃ g, f = g + 1 := ⟨f - 1, by omega⟩
    rw [e_C_greatestDivisor_9, br_leT (by omega) (by omega)]; rfl
  | succ r ih =>
    intro i f a b x9 h1 h2 ha hb
    obtain ⟨f, rfl⟩ : ∃ g, f = g + 1 := ⟨f - 1, by omega⟩
    have e0 : ln b = 0 ↔ b = 0 := by
      constructor
      · intro h
        have := congrArg Int64.toInt h
        rw [ln_i (by omega), l0] at this; omega
      · intro h; rw [h]; rfl
    rw [e_C_greatestDivisor_9, br_leF (by omega) (by omega), br_lgeq, br_el, sp_eu]
    by_cases g : b = 0
    · rw [if_pos (e0.mpr g), if_pos g]
    · rw [if_neg (fun h => g (e0.mp h)), if_neg (fun h => g (e0.mp h)), if_neg g, ln_rem (by omega) (by omega), zn_add]
      have := Nat.mod_lt a (show 0 < b by omega)
      exact ih (i + 1) f b (a % b) _ (by omega) (by omega) hb (by omega)
theorem lp_wt {T : Td} {d c n : Nat} {m : am_M} (hg : T 0 3 ≤ 100) (hf : m.1 27 15 = zn (T 0 3)) (hn : n ≤ 4) (r : Nat) : ∀ i f a, i + r = n → r < f → r_C_weightOf_5 d f (zn c) (zn n) (ln a) (zn i) m = some (some (.long (ln (sp_od (T 0 3) c r i a))), m) := by
  induction r with
  | zero =>
    intro i f a h1 h2
    obtain ⟨f, rfl⟩ : ∃ g, f = g + 1 := ⟨f - 1, by omega⟩
    rw [e_C_weightOf_5, br_leT (by omega) (by omega)]; rfl
  | succ r ih =>
    intro i f a h1 h2
    obtain ⟨f, rfl⟩ : ∃ g, f = g + 1 := ⟨f - 1, by omega⟩
    rw [e_C_weightOf_5, br_leF (by omega) (by omega), br_eq, hf, zn_sub hg, zn_64 (by omega), zn_64 (by omega), ln_mul, ln_mul, zn_add, sp_od]
    by_cases g : ((zn c >>> (zn i &&& 31)) &&& zn 1) = zn 1
    · rw [if_pos g, if_pos g]; exact ih (i + 1) f _ (by omega) (by omega)
    · rw [if_neg g, if_neg g]; exact ih (i + 1) f _ (by omega) (by omega)
theorem lp_ew {T : Td} {E : Ev} {q : Sq} {t c0 n d : Nat} (W : tW T) (hE : evW E) (ht : t < T 0 0) (hn : n ≤ 4) (r : Nat) :
    ∀ (i f day : Nat) (h : Hs) (w : List Nat) (m : am_M), i + r = n → r < f → sw T q.1 q.2.1 q.2.2.1 (day + r) → cx T (V0 T) E m → sn 85 T q.1 q.2.1 q.2.2.1 h w day m → hwI (T 0 0) h w →
    ∃ m', r_C_endsWithOwn_14 (d + 5) f (zn t) (zn c0) (zn n) (zn i) m = some (some (.int (zb (decide (sp_wi T E q c0 r i day h w t = some t)))), m') ∧ fdy 85 m m' := by
  have hk : sc_k 85 := Or.inr (Or.inr (Or.inr (Or.inr rfl)))
  have hn5 := W.n
  induction r with
  | zero =>
    intro i f day h w m h1 h2 S c s I
    obtain ⟨f, rfl⟩ : ∃ g, f = g + 1 := ⟨f - 1, by omega⟩
    refine ⟨m, ?_, fdy_refl 85 m⟩
    have hs : m.1 86 t = zo (h t) := s.hs t ht
    rw [e_C_endsWithOwn_14, br_leT (by omega) (by omega), br_oiF (by omega) (by omega), zn_cl (by omega), hs, br_zoN (fun s e => by have := hw_h I ht e; omega) (by omega), sp_wi]
    by_cases g : h t = some t
    · rw [if_pos g, decide_eq_true g]; rfl
    · rw [if_neg g, decide_eq_false g]; rfl
  | succ r ih =>
    intro i f day h w m h1 h2 S c s I
    obtain ⟨f, rfl⟩ : ∃ g, f = g + 1 := ⟨f - 1, by omega⟩
    have S0 : sw T q.1 q.2.1 q.2.2.1 day := ⟨S.ol, S.os, S.hu, S.ml, S.ms, by have := S.dy; omega⟩
    have S1 : sw T q.1 q.2.1 q.2.2.1 (day + 1 + r) := ⟨S.ol, S.os, S.hu, S.ml, S.ms, by have := S.dy; omega⟩
    rw [e_C_endsWithOwn_14, br_leF (by omega) (by omega), br_eq, sp_wi, zn_add]
    by_cases g : ((zn c0 >>> (zn i &&& 31)) &&& zn 1) = zn 1
    · obtain ⟨m1, a1, a2, a3⟩ := s_passFog hk W.tw hE S0 c s I (d := d)
      obtain ⟨m', b1, b2⟩ := ih (i + 1) f (day + 1) _ _ m1 (by omega) (by omega) S1 (c.fy hk a3) a2 (fog_hw S.ms I)
      rw [if_pos g, if_pos g, a1, bV_s, b1]
      exact ⟨m', rfl, fdy_tr a3 b2⟩
    · obtain ⟨m1, a1, a2, a3⟩ := s_pass hk W.tw hE S0 c s I (d := d)
      obtain ⟨m', b1, b2⟩ := ih (i + 1) f (day + 1) _ _ m1 (by omega) (by omega) S1 (c.fy hk a3) a2 (pass_hw S.ms I)
      rw [if_neg g, if_neg g, a1, bV_s, b1]
      exact ⟨m', rfl, fdy_tr a3 b2⟩

theorem s_ends {T G F : Td} {q : Sq} {w : List Nat} {day num t c0 n d : Nat} {m : am_M} (c : Core T G F q w day num m) (ht : t < T 0 0) (hn : n ≤ 4) :
    ∃ m', am_c (d + 6) y_C_endsWithOwn [.ref 0, .int (zn t), .int (zn c0), .int (zn n)] m = some (some (.int (zb (decide (sp_wi T (gE G F) q c0 n 0 day q.2.2.2 w t = some t)))), m') ∧ fqC m m' := by
  have hk : sc_k 85 := Or.inr (Or.inr (Or.inr (Or.inr rfl)))
  have hw5 := hw_len c.qw.hw; have hn5 := c.tw.n; have hL := c.tw.L; have ol := c.qw.ol; have hdb := c.db
  obtain ⟨m1, a1, a2, a3, a4⟩ := s_copy hk (Or.inr (Or.inr (Or.inl rfl))) (by omega) c.tw c.sc (by omega) (by omega) c.qw.ml (d := d + 4)
  have fq1 : fqC m m1 := a4.q (by omega)
  obtain ⟨m2, b1, b2⟩ := lp_ew (q := q) (c0 := c0) (d := d) c.tw (gE_evW c.gw c.gf) ht hn n 0 29999 day q.2.2.2 w m1 (by omega) (by omega) (c.qw.sw c.tw (by omega)) ((c.qC fq1).tc.cx c.gw) a2 c.qw.hw
  exact ⟨m2, by rw [n_C_endsWithOwn, a1, bV_s, b1], fqC_tr fq1 (b2.q (by omega))⟩
theorem lp_w61 {T G F : Td} {q : Sq} {w : List Nat} {day num t n B : Nat} {x3 : Int32} (W : tW T) (ht : t < T 0 0) (hn : n ≤ 4) (hB : B ≤ 100000000) (hB0 : 0 < B) (r : Nat) :
    ∀ (c f a : Nat) (x9 : Option Value) (m : am_M), c + r = 2 ^ n → r < f → a ≤ c * 100 ^ n → Core T G F q w day num m →
    ∃ m', r_C_whole_61 7 f (zn t) (zn n) x3 (ln a) (ln B) (zn c) x9 m = some (some (.int (if x3 = zn 0 then zn (sp_up T (gE G F) q w day t n r c a / Nat.gcd (sp_up T (gE G F) q w day t n r c a) B) else zn (B / Nat.gcd (sp_up T (gE G F) q w day t n r c a) B))), m') ∧ fqC m m' := by
  have hg := W.fg
  have hp : ∀ n, n < 5 → 100 ^ n ≤ 100000000 ∧ 2 ^ n ≤ 16 ∧ 1 ≤ 2 ^ n := by decide
  have hpn := hp n (by omega)
  have hcm : ∀ c, c ≤ 16 → c * 100 ^ n ≤ 1600000000 := fun c hc => Nat.le_trans (Nat.mul_le_mul hc hpn.1) (by omega)
  induction r with
  | zero =>
    intro c f a x9 m h1 h2 ha C
    obtain ⟨f, rfl⟩ : ∃ g, f = g + 1 := ⟨f - 1, by omega⟩
    have h3 := hcm c (by omega)
    have g0 : 0 < Nat.gcd a B := Nat.gcd_pos_of_pos_right _ hB0
    have g1 : Nat.gcd a B ≤ B := Nat.gcd_le_right _ hB0
    refine ⟨m, ?_, fqC_refl m⟩
    have hgd : am_c 7 y_C_greatestDivisor [.long (ln a), .long (ln B)] m = some (some (.long (ln (Nat.gcd a B))), m) := by
      rw [n_C_greatestDivisor, lp_gd 100 0 29999 a B none (by omega) (by omega) (by omega) (by omega), eu_gcd 27 100 a B (Nat.lt_of_le_of_lt hB (by decide)) (by omega)]
    have hle : ¬ ln (Nat.gcd a B) ≤ 0 := by rw [Int64.le_iff_toInt_le, ln_i (by omega), l0]; omega
    have hne : ¬ ln (Nat.gcd a B) = 0 := fun h => by
      have := congrArg Int64.toInt h
      rw [ln_i (by omega), l0] at this; omega
    have q1 : a / Nat.gcd a B ≤ a := Nat.div_le_self _ _
    have q2 : B / Nat.gcd a B ≤ B := Nat.div_le_self _ _
    rw [e_C_whole_61, one_shl n (by omega), br_leT (by omega) (by omega), hgd, bL_s, br_eq, br_lgle, br_lgle, if_neg hle, if_neg hle, br_el, br_el, if_neg hne, if_neg hne, ln_div (by omega) (by omega), ln_div (by omega) (by omega), ln_32 (by omega), ln_32 (by omega), sp_up]
    by_cases g : x3 = zn 0
    · rw [if_pos g, if_pos g]
    · rw [if_neg g, if_neg g]
  | succ r ih =>
    intro c f a x9 m h1 h2 ha C
    obtain ⟨f, rfl⟩ : ∃ g, f = g + 1 := ⟨f - 1, by omega⟩
    have h3 := hcm c (by omega)
    have hw : sp_od (T 0 3) c n 0 1 ≤ 100 ^ n := by have := od_le (c := c) hg n 0 1 1 (Nat.le_refl _); rwa [Nat.one_mul] at this
    have e1 : (ln 1 : Int64) = 1 := rfl
    have hwt : am_c 7 y_C_weightOf [.ref 0, .int (zn c), .int (zn n)] m = some (some (.long (ln (sp_od (T 0 3) c n 0 1))), m) := by
      rw [n_C_weightOf, ← e1, lp_wt hg C.tc.fg hn n 0 29999 1 (by omega) (by omega)]
    obtain ⟨m1, b1, b2⟩ := s_ends (c0 := c) (n := n) (d := 1) C ht hn
    have C1 := C.qC b2
    have hsm : (c + 1) * 100 ^ n = c * 100 ^ n + 100 ^ n := Nat.succ_mul _ _
    rw [e_C_whole_61, one_shl n (by omega), br_leF (by omega) (by omega), hwt, bL_s, br_lgle, sp_up, zn_add]
    by_cases g0 : sp_od (T 0 3) c n 0 1 = 0
    · have hz : (if sp_wi T (gE G F) q c n 0 day q.2.2.2 w t = some t then sp_od (T 0 3) c n 0 1 else 0) = 0 := by rw [g0]; split <;> rfl
      rw [if_pos (by rw [g0]; decide), hz, Nat.add_zero]
      exact ih (c + 1) f a _ m (by omega) (by omega) (by omega) C
    · rw [if_neg (by rw [Int64.le_iff_toInt_le, ln_i (by omega), l0]; omega), b1, bI_s, br_zb]
      by_cases g1 : sp_wi T (gE G F) q c n 0 day q.2.2.2 w t = some t
      · rw [decide_eq_true g1, if_pos rfl, if_pos g1, ln_add]
        obtain ⟨m', d1, d2⟩ := ih (c + 1) f (a + sp_od (T 0 3) c n 0 1) (some (.long (ln (sp_od (T 0 3) c n 0 1)))) m1 (by omega) (by omega) (by omega) C1
        exact ⟨m', d1, fqC_tr b2 d2⟩
      · rw [decide_eq_false g1, if_neg (by simp), if_neg g1, Nat.add_zero]
        obtain ⟨m', d1, d2⟩ := ih (c + 1) f a (some (.long (ln (sp_od (T 0 3) c n 0 1)))) m1 (by omega) (by omega) (by omega) C1
        exact ⟨m', d1, fqC_tr b2 d2⟩
theorem lp_w38 {d n : Nat} {x1 x3 : Int32} {x4 : Int64} {m : am_M} (hn : n ≤ 4) (r : Nat) : ∀ i f a, i + r = n → r < f → ∃ f', r_C_whole_38 d f x1 (zn n) x3 x4 (ln a) (zn i) m = r_C_whole_61 d f' x1 (zn n) x3 x4 (ln (a * 100 ^ r)) (zn 0) none m ∧ f ≤ f' + r + 1 := by
  induction r with
  | zero =>
    intro i f a h1 h2
    obtain ⟨f, rfl⟩ : ∃ g, f = g + 1 := ⟨f - 1, by omega⟩
    exact ⟨f, by rw [e_C_whole_38, br_leT (by omega) (by omega), Nat.pow_zero, Nat.mul_one], by omega⟩
  | succ r ih =>
    intro i f a h1 h2
    obtain ⟨f, rfl⟩ : ∃ g, f = g + 1 := ⟨f - 1, by omega⟩
    obtain ⟨f', b1, b2⟩ := ih (i + 1) f (a * 100) (by omega) (by omega)
    refine ⟨f', ?_, by omega⟩
    have e1 : (100 : Int64) = ln 100 := rfl
    rw [e_C_whole_38, br_leF (by omega) (by omega), zn_add, e1, ln_mul, b1, Nat.mul_assoc, Nat.pow_succ, Nat.mul_comm 100 (100 ^ r)]
/-! the reference -/
theorem lq_gd {d : Nat} {x0 x1 : Int32} {m : am_M} (k : Nat) : ∀ f a b x4, b < 2 ^ k → 2 * k < f → a < 2147483648 → b < 2147483648 → r_M_common_4 d f x0 x1 (zn a) (zn b) x4 m = some (some (.int (zn (Nat.gcd a b))), m) := by
  have e0 : ∀ b, b < 2147483648 → b ≠ 0 → ¬ zn b = 0 := fun b hb g q => by have := (zn_inj (b := 0) hb (by omega)).mp q; omega
  induction k with
  | zero =>
    intro f a b x4 h1 h2 ha hb
    obtain ⟨f, rfl⟩ : ∃ g, f = g + 1 := ⟨f - 1, by omega⟩
    rw [Nat.pow_zero] at h1
    have : b = 0 := by omega
    subst this
    rw [e_M_common_4, br_eqT rfl, Nat.gcd_zero_right]
  | succ k ih =>
    intro f a b x4 h1 h2 ha hb
    obtain ⟨f, rfl⟩ : ∃ g, f = g + 2 := ⟨f - 2, by omega⟩
    rw [e_M_common_4]
    by_cases g : b = 0
    · rw [br_eqT g, g, Nat.gcd_zero_right]
    · have hr := Nat.mod_lt a (show 0 < b by omega)
      rw [br_eqF g (by omega) (by omega), br_eq, if_neg (e0 b hb g), zn_rem (by omega) (by omega), e_M_common_4]
      by_cases hr0 : a % b = 0
      · rw [br_eqT hr0, Nat.gcd_comm, Nat.gcd_rec, hr0, Nat.gcd_zero_left]
      · have h3 := Nat.div_add_mod b (a % b)
        have h4 : 1 ≤ b / (a % b) := (Nat.le_div_iff_mul_le (by omega)).mpr (by omega)
        have h5 : a % b ≤ (a % b) * (b / (a % b)) := Nat.le_mul_of_pos_right _ (by omega)
        have h6 : b % (a % b) < a % b := Nat.mod_lt _ (by omega)
        rw [Nat.pow_succ] at h1
        rw [br_eqF hr0 (by omega) (by omega), br_eq, if_neg (e0 _ (by omega) hr0), zn_rem (by omega) (by omega), ih f (a % b) (b % (a % b)) _ (by omega) (by omega) (by omega) (by omega)]
        rw [Nat.gcd_comm (a % b), ← Nat.gcd_rec, Nat.gcd_comm a b, Nat.gcd_rec b a]
theorem lq_w65 {T G F : Td} {q : Sq} {t c0 n d a0 : Nat} {x3 x4 : Int32} (W : tW T) (hE : evW (gE G F)) (ht : t < T 0 0) (hn : n ≤ 4) (r : Nat) :
    ∀ (i f day o : Nat) (h : Hs) (w : List Nat) (m : am_M), i + r = n → r < f → sw T q.1 q.2.1 q.2.2.1 (day + r) → rx T (V0 T) (gE G F) m → rn 1 T q.1 q.2.1 q.2.2.1 h w day m → hwI (T 0 0) h w →
    ∃ f' y7 y8 m', r_M_whole_65 (d + 6) f (zn t) (zn n) x3 x4 (zn a0) (zn c0) (zn o) (zn i) m = r_M_whole_47 (d + 6) f' (zn t) (zn n) x3 x4 (zn (a0 + if sp_wi T (gE G F) q c0 r i day h w t = some t then sp_od (T 0 3) c0 r i o else 0)) (zn (c0 + 1)) y7 y8 m' ∧ f ≤ f' + r + 1 ∧ fqR m m' := by
  have hn5 := W.n; have hg := W.fg
  induction r with
  | zero =>
    intro i f day o h w m h1 h2 S c s I
    obtain ⟨f, rfl⟩ : ∃ g, f = g + 1 := ⟨f - 1, by omega⟩
    refine ⟨f, some (.int (zn o)), some (.int (zn i)), m, ?_, by omega, fqR_refl m⟩
    have hs : m.1 132 (5 + t) = zo (h t) := s.hs t ht
    rw [e_M_whole_65, br_leT (by omega) (by omega), zn_add, br_oiF (by omega) (by omega), zn_cl (by omega), hs, br_zoN (fun s e => by have := hw_h I ht e; omega) (by omega), sp_wi, sp_od, zn_add, zn_add, zn_add]
    by_cases g : h t = some t
    · rw [if_pos g, if_pos g]
    · rw [if_neg g, if_neg g]
  | succ r ih =>
    intro i f day o h w m h1 h2 S c s I
    obtain ⟨f, rfl⟩ : ∃ g, f = g + 1 := ⟨f - 1, by omega⟩
    have S0 : sw T q.1 q.2.1 q.2.2.1 day := ⟨S.ol, S.os, S.hu, S.ml, S.ms, by have := S.dy; omega⟩
    have S1 : sw T q.1 q.2.1 q.2.2.1 (day + 1 + r) := ⟨S.ol, S.os, S.hu, S.ml, S.ms, by have := S.dy; omega⟩
    rw [e_M_whole_65, br_leF (by omega) (by omega), n_M_isOf, br_eq, sp_wi, sp_od]
    by_cases g : ((zn c0 >>> (zn i &&& 31)) &&& zn 1) = zn 1
    · obtain ⟨m1, a1, a2, a3⟩ := s_goOnFog (b := 1) (by omega) W.tw hE S0 c s I (d := d)
      have c1 := c.fy a3
      obtain ⟨f', y7, y8, m', b1, b0, b2⟩ := ih (i + 1) f (day + 1) (o * T 0 3) _ _ m1 (by omega) (by omega) S1 c1 a2 (fog_hw S.ms I)
      refine ⟨f', y7, y8, m', ?_, by omega, fqR_tr a3.q b2⟩
      rw [if_pos g, bI_s, a1, bV_s, n_M_isOf, br_eq, if_pos g, bI_s, br_eqF (by omega) (by omega) (by omega), c1.fg, zn_mul, zn_add, b1, if_pos g, if_pos g]
    · obtain ⟨m1, a1, a2, a3⟩ := s_goOn (b := 1) (by omega) W.tw hE S0 c s I (d := d)
      have c1 := c.fy a3
      obtain ⟨f', y7, y8, m', b1, b0, b2⟩ := ih (i + 1) f (day + 1) (o * (100 - T 0 3)) _ _ m1 (by omega) (by omega) S1 c1 a2 (pass_hw S.ms I)
      refine ⟨f', y7, y8, m', ?_, by omega, fqR_tr a3.q b2⟩
      rw [if_neg g, bI_s, a1, bV_s, n_M_isOf, br_eq, if_neg g, bI_s, br_eqT rfl, c1.fg, zn_sub hg, zn_mul, zn_add, b1, if_neg g, if_neg g]
theorem lq_w47 {T G F : Td} {q : Sq} {w : List Nat} {day num t n B : Nat} {x3 : Int32} (W : tW T) (gw : gW G F) (hE : evW (gE G F)) (Q : qW T w q) (hd : day ≤ 999) (ht : t < T 0 0) (hn : n ≤ 4) (hB : B ≤ 100000000) (hB0 : 0 < B) (r : Nat) :
    ∀ (c f a : Nat) (x7 x8 : Option Value) (m : am_M), c + r = 2 ^ n → 10 * r < f → a ≤ c * 100 ^ n → tR T G F m → nR T q.1 q.2.1 q.2.2.1 q.2.2.2 w day num m →
    ∃ m', r_M_whole_47 7 f (zn t) (zn n) x3 (zn B) (zn a) (zn c) x7 x8 m = some (some (.int (if x3 = zn 0 then zn (sp_up T (gE G F) q w day t n r c a / Nat.gcd (sp_up T (gE G F) q w day t n r c a) B) else zn (B / Nat.gcd (sp_up T (gE G F) q w day t n r c a) B))), m') ∧ fqR m m' := by
  have hw5 := hw_len Q.hw; have hn5 := W.n; have hL := W.L; have hg := W.fg
  have hp : ∀ n, n < 5 → 100 ^ n ≤ 100000000 ∧ 2 ^ n ≤ 16 ∧ 1 ≤ 2 ^ n := by decide
  have hpn := hp n (by omega)
  have hcm : ∀ c, c ≤ 16 → c * 100 ^ n ≤ 1600000000 := fun c hc => Nat.le_trans (Nat.mul_le_mul hc hpn.1) (by omega)
  have S := Q.sw W (day := day + n) (by omega)
  induction r with
  | zero =>
    intro c f a x7 x8 m h1 h2 ha tr s
    obtain ⟨f, rfl⟩ : ∃ g, f = g + 1 := ⟨f - 1, by omega⟩
    have h3 := hcm c (by omega)
    have g0 : 0 < Nat.gcd a B := Nat.gcd_pos_of_pos_right _ hB0
    have g1 : Nat.gcd a B ≤ B := Nat.gcd_le_right _ hB0
    have hne : ¬ zn (Nat.gcd a B) = 0 := fun q => by have := (zn_inj (b := 0) (by omega) (by omega)).mp q; omega
    refine ⟨m, ?_, fqR_refl m⟩
    rw [e_M_whole_47, one_shl n (by omega), br_leT (by omega) (by omega), n_M_common, lq_gd 27 29999 a B none (Nat.lt_of_le_of_lt hB (by decide)) (by omega) (by omega) (by omega), bI_s, br_eq, br_eq, br_eq, if_neg hne, if_neg hne, zn_div (by omega) (by omega), zn_div (by omega) (by omega), sp_up]
    by_cases g : x3 = zn 0
    · rw [if_pos g, if_pos g]
    · rw [if_neg g, if_neg g]
  | succ r ih =>
    intro c f a x7 x8 m h1 h2 ha tr s
    obtain ⟨f, rfl⟩ : ∃ g, f = g + 1 := ⟨f - 1, by omega⟩
    have hw : sp_od (T 0 3) c n 0 1 ≤ 100 ^ n := by have := od_le (c := c) hg n 0 1 1 (Nat.le_refl _); rwa [Nat.one_mul] at this
    obtain ⟨m1, a1, a2, a3, a4⟩ := s_layT W tr s (by omega) (fun l hl => by have := Q.om l hl; omega) (d := 5)
    have tr1 := tr.q a4
    obtain ⟨f', y7, y8, m2, b1, b0, b2⟩ := lq_w65 (q := q) (c0 := c) (d := 1) (a0 := a) (x3 := x3) (x4 := zn B) W hE ht hn n 0 f day 1 q.2.2.2 w m1 (by omega) (by omega) S (tr1.rx a2 W gw) a3 Q.hw
    have f2 := fqR_tr a4 b2
    have hsm : (c + 1) * 100 ^ n = c * 100 ^ n + 100 ^ n := Nat.succ_mul _ _
    obtain ⟨m', d1, d2⟩ := ih (c + 1) f' (a + if sp_wi T (gE G F) q c n 0 day q.2.2.2 w t = some t then sp_od (T 0 3) c n 0 1 else 0) y7 y8 m2 (by omega) (by omega) (by rw [hsm]; split <;> omega) (tr.q f2) (s.q (by omega) W f2)
    refine ⟨m', ?_, fqR_tr f2 d2⟩
    rw [e_M_whole_47, one_shl n (by omega), br_leF (by omega) (by omega), a1, bV_s, b1, sp_up, d1]
theorem k_whole (x y z : Int32) : ask y_C_whole y_M_whole [.int x, .int y, .int z] := by
  refine ask_of fun T G F q w day num m c r => ?_
  have hE := gE_evW c.gw c.gf
  have i1 := s_isThingC c.tc c.tw (d := 6) (x := x)
  have c2 := c.qR (fqR_th m (zn 0))
  have i2 := s_isThingR c2.tr c.tw (d := 6) (x := x)
  by_cases ok : isN (T 0 0) x = true ∧ isR (1 : Nat) (4 : Nat) y = true ∧ isR (0 : Nat) (1 : Nat) z = true
  · obtain ⟨e1, e2, e3⟩ := ok
    obtain ⟨t, ht, rfl⟩ := isN_t e1
    obtain ⟨n, n1, n2, rfl⟩ := isR_t e2
    have hp : ∀ n, n < 5 → 100 ^ n ≤ 100000000 ∧ 0 < 100 ^ n ∧ 2 ^ n ≤ 16 := by decide
    have hpn := hp n (by omega)
    obtain ⟨f1, a1, a0⟩ := lp_w38 (d := 7) (x1 := zn t) (x3 := z) (x4 := ln 0) (m := m) n2 n 0 29999 1 (by omega) (by omega)
    rw [Nat.one_mul] at a1
    obtain ⟨m2, b1, b2⟩ := lp_w61 (x3 := z) c.tw ht n2 hpn.1 hpn.2.1 (2 ^ n) 0 f1 0 none m (by omega) (by omega) (by omega) c
    refine ⟨some (.int (if z = zn 0 then zn (sp_up T (gE G F) q w day t n (2 ^ n) 0 0 / Nat.gcd (sp_up T (gE G F) q w day t n (2 ^ n) 0 0) (100 ^ n)) else zn (100 ^ n / Nat.gcd (sp_up T (gE G F) q w day t n (2 ^ n) 0 0) (100 ^ n)))), m2, ?_, b2, fun c3 r3 => ?_⟩
    · rw [n_C_whole, i1, e1, bI_s, br_zb, if_pos rfl, isR_eq (by omega) (by omega), if_pos e2, isR_le (by omega) (by omega), if_pos e3]
      exact a1.trans b1
    · have c4 := c3.qR (fqR_th m2 (zn 0))
      obtain ⟨m5, d1, d2⟩ := lq_w47 (x3 := z) c.tw c.gw hE c.qw c.db ht n2 hpn.1 hpn.2.1 (2 ^ n) 0 29999 0 none none _ (by omega) (by omega) (by omega) c4.tr c4.nr
      refine ⟨m5, ?_, fqR_tr (fqR_th m2 (zn 0)) d2⟩
      rw [n_M_whole, s_isThingR c4.tr c.tw, e1, bI_s, br_zb, if_pos rfl, s_isInN (by omega) (by omega), e2, bI_s, br_zb, if_pos rfl, s_isInN (by omega) (by omega), e3, bI_s, br_zb, if_pos rfl, s_pow (by omega), bI_s, d1]
  · refine ⟨some (.int zm), m, ?_, fqC_refl m, fun c1 r1 => ⟨_, ?_, fqR_th m (zn 0)⟩⟩
    · rw [n_C_whole, i1, bI_s, br_zb, isR_eq (by omega) (by omega), isR_le (by omega) (by omega)]
      by_cases e1 : isN (T 0 0) x = true
      · rw [if_pos e1]
        by_cases e2 : isR (1 : Nat) (4 : Nat) y = true
        · rw [if_pos e2, if_neg (fun e3 => ok ⟨e1, e2, e3⟩)]
        · rw [if_neg e2]
      · rw [if_neg e1]
    · rw [n_M_whole, i2, bI_s, br_zb, s_isInN (by omega) (by omega), bI_s, br_zb, s_isInN (by omega) (by omega), bI_s, br_zb]
      by_cases e1 : isN (T 0 0) x = true
      · rw [if_pos e1]
        by_cases e2 : isR (1 : Nat) (4 : Nat) y = true
        · rw [if_pos e2, if_neg (fun e3 => ok ⟨e1, e2, e3⟩)]
        · rw [if_neg e2]
      · rw [if_neg e1]
