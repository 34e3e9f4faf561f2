/-! rests, rest: two who choose when to come -/
def V4 (T : Td) (a b g : Nat) : Td := fun r i => if r = 0 then (if i = b then g % 5 else if i = a then g / 5 else T 3 i) else V0 T r i
theorem tw4 {T : Td} (W : tW T) {a b g : Nat} (hg : g < 25) : tw T (V4 T a b g) := ⟨W.n, W.L, W.pl, W.sz, W.fg, W.rl, fun i hi => by show (if i = b then g % 5 else if i = a then g / 5 else T 3 i) < 10; have := W.cm i hi; (repeat' split) <;> omega, W.hw, W.rc⟩
/-- what one of them has then -/
def sp_gn (T : Td) (E : Ev) (q : Sq) (w : List Nat) (day a b x g : Nat) : Nat := sp_szo T ((sp_pass T (V4 T a b g) E q.2.1 day q.1 q.2.2.1 q.2.2.2 w).1 x)
theorem szo_lt {T : Td} (W : tW T) {o : Option Nat} (h : ∀ s, o = some s → s < T 0 0) : sp_szo T o < 10 := by
  unfold sp_szo; split
  · omega
  · rename_i s; exact W.sz s (h s rfl)
theorem gn_lt {T : Td} {E : Ev} {q : Sq} {w : List Nat} {day a b x g : Nat} (W : tW T) (Q : qW T w q) (hx : x < T 0 0) : sp_gn T E q w day a b x g < 10 :=
  szo_lt W (fun s e => hw_h (pass_hw (fun p hp => by have := Q.ms p hp; omega) Q.hw) hx e)
def fq4 (a b : Nat) (m m' : am_M) : Prop := (∀ c, c ≤ 24 ∨ 27 ≤ c ∧ c ≤ 46 ∨ c = 48 ∨ c = 49 ∨ 71 ≤ c ∧ c ≤ 84 ∨ 97 ≤ c ∧ c ≤ 100 ∨ 102 ≤ c → m'.1 c = m.1 c) ∧ (∀ i, i ≠ a → i ≠ b → m'.1 47 i = m.1 47 i) ∧ ∀ c, 107 ≤ c → m'.2 c = m.2 c
theorem lp_fr1 {T G F : Td} {q : Sq} {w : List Nat} {day num d a b : Nat} {m0 : am_M} (c : Core T G F q w day num m0) (ha : a < T 0 0) (hb : b < T 0 0) (hab : a ≠ b) (r : Nat) :
    ∀ (i f : Nat) (m : am_M), i + r = 25 → r < f → fq4 a b m0 m → (∀ j, j < i → m.1 68 j = zn (sp_gn T (gE G F) q w day a b a j) ∧ m.1 69 j = zn (sp_gn T (gE G F) q w day a b b j)) →
    ∃ f' m', r_Finder_findRests_3 71 (d + 5) f (zn a) (zn b) (zn i) m = r_Finder_findRests_3 71 (d + 5) (f' + 1) (zn a) (zn b) (zn 25) m' ∧ f ≤ f' + r + 1 ∧ fq4 a b m0 m' ∧ ∀ j, j < 25 → m'.1 68 j = zn (sp_gn T (gE G F) q w day a b a j) ∧ m'.1 69 j = zn (sp_gn T (gE G F) q w day a b b j) := by
  have hk : sc_k 71 := Or.inr (Or.inr (Or.inl rfl))
  have hk9 : sc_k 59 := Or.inr (Or.inl rfl)
  have hE := gE_evW c.gw c.gf
  have hw5 := hw_len c.qw.hw; have hn5 := c.tw.n; have hL := c.tw.L; have ol := c.qw.ol; have hdb := c.db
  have S := c.qw.sw c.tw (day := day) (by omega)
  induction r with
  | zero =>
    intro i f m h1 h2 fq hg
    refine ⟨f - 1, m, ?_, by omega, fq, fun j hj => hg j (by omega)⟩
    rw [Nat.sub_add_cancel (by omega), show i = 25 from by omega]
  | succ r ih =>
    intro i f m h1 h2 fq hg
    obtain ⟨f, rfl⟩ : ∃ g, f = g + 1 := ⟨f - 1, by omega⟩
    let m1 : am_M := (am_w (am_w m.1 47 a (zn (i / 5))) 47 b (zn (i % 5)), m.2)
    have e1 : ∀ p, p ≠ 47 → m1.1 p = m.1 p := fun p hp => by show (am_w (am_w m.1 47 a (zn (i / 5))) 47 b (zn (i % 5))) p = _; simp (disch := omega) only [w_ne, w_at, wl_ne, wl_at, wc_ne, wc_at, upd_at, upd_ne, upl_at, upl_ne, cpy_in0, zn_cl, zn_add, zn_mul, zn_sub, zn_pm, br_tt, br_ff, br_ltT, br_ltF, br_leT, br_leF, br_eqT, br_eqF, br_eqs, br_eqm, br_eqm', br_ltm, br_mlt, br_lem, br_mle, br_oiF, br_lgge, br_lgle, br_lggt, br_lglt, br_lgeq, br_zb, br_zb1, bV_s, bI_s, bL_s, zo_n, zo_s]
    have e47 : ∀ j, m1.1 47 j = if j = b then zn (i % 5) else if j = a then zn (i / 5) else m.1 47 j := by
      intro j
      show (am_w (am_w m.1 47 a (zn (i / 5))) 47 b (zn (i % 5))) 47 j = _
      by_cases q1 : j = b
      · subst q1; rw [if_pos rfl]; simp (disch := omega) only [w_ne, w_at, wl_ne, wl_at, wc_ne, wc_at, upd_at, upd_ne, upl_at, upl_ne, cpy_in0, zn_cl, zn_add, zn_mul, zn_sub, zn_pm, br_tt, br_ff, br_ltT, br_ltF, br_leT, br_leF, br_eqT, br_eqF, br_eqs, br_eqm, br_eqm', br_ltm, br_mlt, br_lem, br_mle, br_oiF, br_lgge, br_lgle, br_lggt, br_lglt, br_lgeq, br_zb, br_zb1, bV_s, bI_s, bL_s, zo_n, zo_s]
      · rw [if_neg q1]
        by_cases q2 : j = a
        · subst q2; rw [if_pos rfl]; simp (disch := omega) only [w_ne, w_at, wl_ne, wl_at, wc_ne, wc_at, upd_at, upd_ne, upl_at, upl_ne, cpy_in0, zn_cl, zn_add, zn_mul, zn_sub, zn_pm, br_tt, br_ff, br_ltT, br_ltF, br_leT, br_leF, br_eqT, br_eqF, br_eqs, br_eqm, br_eqm', br_ltm, br_mlt, br_lem, br_mle, br_oiF, br_lgge, br_lgle, br_lggt, br_lglt, br_lgeq, br_zb, br_zb1, bV_s, bI_s, bL_s, zo_n, zo_s]
        · rw [if_neg q2]; simp (disch := omega) only [w_ne, w_at, wl_ne, wl_at, wc_ne, wc_at, upd_at, upd_ne, upl_at, upl_ne, cpy_in0, zn_cl, zn_add, zn_mul, zn_sub, zn_pm, br_tt, br_ff, br_ltT, br_ltF, br_leT, br_leF, br_eqT, br_eqF, br_eqs, br_eqm, br_eqm', br_ltm, br_mlt, br_lem, br_mle, br_oiF, br_lgge, br_lgle, br_lggt, br_lglt, br_lgeq, br_zb, br_zb1, bV_s, bI_s, bL_s, zo_n, zo_s]
    have X0 := c.tc.cx c.gw
    have X1 : cx T (V4 T a b i) (gE G F) m1 := by
      refine ⟨?_, ?_, ?_, ?_, ?_, ?_, ?_, ?_, ?_, ?_⟩
      · rw [e1 27 (by omega), fq.1 27 (by omega)]; exact X0.n
      · rw [e1 27 (by omega), fq.1 27 (by omega)]; exact X0.L
      · rw [e1 29 (by omega), fq.1 29 (by omega)]; exact X0.pl
      · rw [e1 30 (by omega), fq.1 30 (by omega)]; exact X0.sz
      · rw [e1 27 (by omega), fq.1 27 (by omega)]; exact X0.fg
      · rw [e1 46 (by omega), fq.1 46 (by omega)]; exact X0.rl
      · intro j hj
        rw [e47]
        show _ = zn (if j = b then i % 5 else if j = a then i / 5 else T 3 j)
        by_cases q1 : j = b
        · rw [if_pos q1, if_pos q1]
        · rw [if_neg q1, if_neg q1]
          by_cases q2 : j = a
          · rw [if_pos q2, if_pos q2]
          · rw [if_neg q2, if_neg q2, fq.2.1 j q2 q1]; exact X0.cm j hj
      · rw [e1 48 (by omega), fq.1 48 (by omega)]; exact X0.hw
      · rw [e1 49 (by omega), fq.1 49 (by omega)]; exact X0.rc
      · exact lwC_mono X0.lw (fun c _ _ => by rw [e1 c (by omega), fq.1 c (by omega)])
    have s1 : sn 71 T q.1 q.2.1 q.2.2.1 q.2.2.2 w day m1 := c.sc.mono (fun p _ _ => by rw [e1 p (by omega), fq.1 p (by omega)])
    obtain ⟨m2, a1, a2, a3, a4⟩ := s_copy hk9 hk (by omega) c.tw s1 (by omega) (by omega) c.qw.ml (d := d + 4)
    have X2 : cx T (V4 T a b i) (gE G F) m2 := X1.mono (fun p _ _ => a4.2 p (by omega))
    obtain ⟨m3, b1, b2, b3⟩ := s_pass hk9 (tw4 c.tw (by omega)) hE S X2 a2 c.qw.hw (d := d)
    have X3 : cx T (V4 T a b i) (gE G F) m3 := X2.mono (fun p _ _ => b3.2.1 p (by omega) (by omega) (by omega))
    have I' : hwI (T 0 0) _ _ := pass_hw (V := V4 T a b i) (E := gE G F) (U := q.2.1) (day := day) (ord := q.1) S.ms c.qw.hw
    have z1 := s_sizeOf (tw4 c.tw (by omega)) X3 (d := d + 4) (o := (sp_pass T (V4 T a b i) (gE G F) q.2.1 day q.1 q.2.2.1 q.2.2.2 w).1 a) (fun s e => hw_h I' ha e)
    have X4 : cx T (V4 T a b i) (gE G F) (am_w m3.1 68 i (zn (sp_gn T (gE G F) q w day a b a i)), m3.2) := X3.mono (fun p _ _ => by simp (disch := omega) only [w_ne, w_at, wl_ne, wl_at, wc_ne, wc_at, upd_at, upd_ne, upl_at, upl_ne, cpy_in0, zn_cl, zn_add, zn_mul, zn_sub, zn_pm, br_tt, br_ff, br_ltT, br_ltF, br_leT, br_leF, br_eqT, br_eqF, br_eqs, br_eqm, br_eqm', br_ltm, br_mlt, br_lem, br_mle, br_oiF, br_lgge, br_lgle, br_lggt, br_lglt, br_lgeq, br_zb, br_zb1, bV_s, bI_s, bL_s, zo_n, zo_s])
    have z2 := s_sizeOf (tw4 c.tw (by omega)) X4 (d := d + 4) (o := (sp_pass T (V4 T a b i) (gE G F) q.2.1 day q.1 q.2.2.1 q.2.2.2 w).1 b) (fun s e => hw_h I' hb e)
    have ha3 : m3.1 60 a = zo ((sp_pass T (V4 T a b i) (gE G F) q.2.1 day q.1 q.2.2.1 q.2.2.2 w).1 a) := b2.hs a ha
    have hb3 : m3.1 60 b = zo ((sp_pass T (V4 T a b i) (gE G F) q.2.1 day q.1 q.2.2.1 q.2.2.2 w).1 b) := b2.hs b hb
    let m5 : am_M := (am_w (am_w m3.1 68 i (zn (sp_gn T (gE G F) q w day a b a i))) 69 i (zn (sp_gn T (gE G F) q w day a b b i)), m3.2)
    have e5 : ∀ p, p ≠ 68 → p ≠ 69 → m5.1 p = m3.1 p := fun p h1 h2 => by show (am_w (am_w m3.1 68 i (zn (sp_gn T (gE G F) q w day a b a i))) 69 i (zn (sp_gn T (gE G F) q w day a b b i))) p = _; simp (disch := omega) only [w_ne, w_at, wl_ne, wl_at, wc_ne, wc_at, upd_at, upd_ne, upl_at, upl_ne, cpy_in0, zn_cl, zn_add, zn_mul, zn_sub, zn_pm, br_tt, br_ff, br_ltT, br_ltF, br_leT, br_leF, br_eqT, br_eqF, br_eqs, br_eqm, br_eqm', br_ltm, br_mlt, br_lem, br_mle, br_oiF, br_lgge, br_lgle, br_lggt, br_lglt, br_lgeq, br_zb, br_zb1, bV_s, bI_s, bL_s, zo_n, zo_s]
    have e3 : ∀ p, p < 59 ∨ 65 < p → m3.1 p = m1.1 p := fun p hp => by rw [b3.2.1 p (by omega) (by omega) (by omega), a4.2 p (by omega)]
    obtain ⟨f', m', d1, d2, d3, d4⟩ := ih (i + 1) f m5 (by omega) (by omega) ⟨fun p hp => by rw [e5 p (by omega) (by omega), e3 p (by omega), e1 p (by omega), fq.1 p hp], fun j j1 j2 => by rw [e5 47 (by omega) (by omega), e3 47 (by omega), e47, if_neg j2, if_neg j1, fq.2.1 j j1 j2], fun p hp => by show m3.2 p = _; rw [b3.1 p (by omega) (by omega) (by omega) (by omega), a4.1]; exact fq.2.2 p hp⟩ (by
      intro j hj
      show (am_w (am_w m3.1 68 i (zn (sp_gn T (gE G F) q w day a b a i))) 69 i (zn (sp_gn T (gE G F) q w day a b b i))) 68 j = _ ∧ (am_w (am_w m3.1 68 i (zn (sp_gn T (gE G F) q w day a b a i))) 69 i (zn (sp_gn T (gE G F) q w day a b b i))) 69 j = _
      by_cases q1 : j = i
      · subst q1; simp (disch := omega) only [w_ne, w_at, wl_ne, wl_at, wc_ne, wc_at, upd_at, upd_ne, upl_at, upl_ne, cpy_in0, zn_cl, zn_add, zn_mul, zn_sub, zn_pm, br_tt, br_ff, br_ltT, br_ltF, br_leT, br_leF, br_eqT, br_eqF, br_eqs, br_eqm, br_eqm', br_ltm, br_mlt, br_lem, br_mle, br_oiF, br_lgge, br_lgle, br_lggt, br_lglt, br_lgeq, br_zb, br_zb1, bV_s, bI_s, bL_s, zo_n, zo_s, and_self]
      · have := hg j (by omega)
        simp (disch := omega) only [w_ne, w_at, wl_ne, wl_at, wc_ne, wc_at, upd_at, upd_ne, upl_at, upl_ne, cpy_in0, zn_cl, zn_add, zn_mul, zn_sub, zn_pm, br_tt, br_ff, br_ltT, br_ltF, br_leT, br_leF, br_eqT, br_eqF, br_eqs, br_eqm, br_eqm', br_ltm, br_mlt, br_lem, br_mle, br_oiF, br_lgge, br_lgle, br_lggt, br_lglt, br_lgeq, br_zb, br_zb1, bV_s, bI_s, bL_s, zo_n, zo_s, e3, e1, this.1, this.2, and_self])
    refine ⟨f', m', ?_, by omega, d3, d4⟩
    rw [e_Finder_findRests_3 hk, ← d1]
    have a1' : am_c (d + 5) y_Scene_copyFrom [.ref 59, .ref 71] (am_w (am_w m.1 47 a (zn (i / 5))) 47 b (zn (i % 5)), m.2) = some (none, m2) := a1
    have z1' : am_c (d + 5) y_Told_sizeOf [.ref 27, .int (zo ((sp_pass T (V4 T a b i) (gE G F) q.2.1 day q.1 q.2.2.1 q.2.2.2 w).1 a))] m3 = some (some (.int (zn (sp_gn T (gE G F) q w day a b a i))), m3) := z1
    have z2' : am_c (d + 5) y_Told_sizeOf [.ref 27, .int (zo ((sp_pass T (V4 T a b i) (gE G F) q.2.1 day q.1 q.2.2.1 q.2.2.2 w).1 b))] (am_w m3.1 68 i (zn (sp_gn T (gE G F) q w day a b a i)), m3.2) = some (some (.int (zn (sp_gn T (gE G F) q w day a b b i))), (am_w m3.1 68 i (zn (sp_gn T (gE G F) q w day a b a i)), m3.2)) := z2
    simp (disch := omega) only [w_ne, w_at, wl_ne, wl_at, wc_ne, wc_at, upd_at, upd_ne, upl_at, upl_ne, cpy_in0, zn_cl, zn_add, zn_mul, zn_sub, zn_pm, br_tt, br_ff, br_ltT, br_ltF, br_leT, br_leF, br_eqT, br_eqF, br_eqs, br_eqm, br_eqm', br_ltm, br_mlt, br_lem, br_mle, br_oiF, br_lgge, br_lgle, br_lggt, br_lglt, br_lgeq, br_zb, br_zb1, bV_s, bI_s, bL_s, zo_n, zo_s, zn_div, zn_rem, a1', b1, ha3, z1', hb3, z2']
    rfl
/-! which of them are rests -/
def sp_ir (A B : Nat → Nat) (i : Nat) : Nat → Nat → Bool
  | 0, _ => true
  | r + 1, k => (decide (A (5 * k + i % 5) ≤ A i) && decide (B (i / 5 * 5 + k) ≤ B i)) && sp_ir A B i r (k + 1)
def sp_rl (A B : Nat → Nat) : Nat → Nat → List Nat
  | 0, _ => []
  | r + 1, i => if sp_ir A B i 5 0 = true then (10 * (i / 5) + i % 5) :: sp_rl A B r (i + 1) else sp_rl A B r (i + 1)
theorem rl_len {A B : Nat → Nat} (r : Nat) : ∀ i, (sp_rl A B r i).length ≤ r := by
  induction r with
  | zero => intro i; exact Nat.le_refl _
  | succ r ih => intro i; rw [sp_rl]; have := ih (i + 1); split <;> simp <;> omega
theorem lp_isRest {A B : Nat → Nat} {d i : Nat} {m : am_M} (hi : i < 25) (hA : ∀ j, j < 25 → m.1 68 j = zn (A j) ∧ m.1 69 j = zn (B j)) (hA1 : ∀ j, A j < 10) (hB1 : ∀ j, B j < 10) (r : Nat) :
    ∀ k f, k + r = 5 → r < f → r_Finder_isRest_9 d f (zn (i / 5)) (zn (i % 5)) (zn i) (zn k) m = some (some (.int (zb (sp_ir A B i r k))), m) := by
  induction r with
  | zero =>
    intro k f h1 h2
    obtain ⟨f, rfl⟩ : ∃ g, f = g + 1 := ⟨f - 1, by omega⟩
    rw [e_Finder_isRest_9, br_leT (by omega) (by omega)]; rfl
  | succ r ih =>
    intro k f h1 h2
    obtain ⟨f, rfl⟩ : ∃ g, f = g + 1 := ⟨f - 1, by omega⟩
    have g1 := hA1 i; have g2 := hB1 i; have g3 := hA1 (5 * k + i % 5); have g4 := hB1 (i / 5 * 5 + k)
    have x1 := (hA i (by omega)).1; have x2 := (hA i (by omega)).2; have x3 := (hA (5 * k + i % 5) (by omega)).1; have x4 := (hA (i / 5 * 5 + k) (by omega)).2
    rw [e_Finder_isRest_9, sp_ir, br_leF (by omega) (by omega), zn_mul, zn_mul, zn_add, zn_add, zn_add, Nat.mul_comm k 5, br_oiF (by omega) (by omega), br_oiF (by omega) (by omega), br_oiF (by omega) (by omega), br_oiF (by omega) (by omega), zn_cl (by omega), zn_cl (by omega), zn_cl (by omega), x1, x2, x3, x4]
    by_cases p1 : A (5 * k + i % 5) ≤ A i
    · rw [br_ltF p1 (by omega), decide_eq_true p1]
      by_cases p2 : B (i / 5 * 5 + k) ≤ B i
      · rw [br_leT p2 (by omega), decide_eq_true p2, ih (k + 1) f (by omega) (by omega)]; rfl
      · rw [br_leF (by omega) (by omega), decide_eq_false p2]; rfl
    · rw [br_ltT (by omega) (by omega), decide_eq_false p1]; rfl
theorem s_isRest {A B : Nat → Nat} {d i : Nat} {m : am_M} (hi : i < 25) (hA : ∀ j, j < 25 → m.1 68 j = zn (A j) ∧ m.1 69 j = zn (B j)) (hA1 : ∀ j, A j < 10) (hB1 : ∀ j, B j < 10) : am_c (d + 1) y_Finder_isRest [.ref 25, .int (zn (i / 5)), .int (zn (i % 5))] m = some (some (.int (zb (sp_ir A B i 5 0))), m) := by
  have e : i / 5 * 5 + i % 5 = i := by omega
  rw [n_Finder_isRest, zn_mul, zn_add, e]
  exact lp_isRest hi hA hA1 hB1 5 0 29999 (by omega) (by omega)
theorem lp_fr2 {A B : Nat → Nat} {d : Nat} {x2 x3 : Int32} (hA1 : ∀ j, A j < 10) (hB1 : ∀ j, B j < 10) (r : Nat) :
    ∀ (i f n : Nat) (m : am_M), i + r = 25 → r < f → n ≤ i → (∀ j, j < 25 → m.1 68 j = zn (A j) ∧ m.1 69 j = zn (B j)) →
    ∃ m', r_Finder_findRests_124 71 (d + 1) f x2 x3 (zn n) (zn i) m = some (some (.int (zn (n + (sp_rl A B r i).length))), m') ∧ m'.2 = m.2 ∧ (∀ c, c ≠ 70 → m'.1 c = m.1 c) ∧ (∀ j, j < n → m'.1 70 j = m.1 70 j) ∧ ∀ j, j < (sp_rl A B r i).length → m'.1 70 (n + j) = zn ((sp_rl A B r i).getD j 0) := by
  have hk : sc_k 71 := Or.inr (Or.inr (Or.inl rfl))
  induction r with
  | zero =>
    intro i f n m h1 h2 h3 hA
    obtain ⟨f, rfl⟩ : ∃ g, f = g + 1 := ⟨f - 1, by omega⟩
    refine ⟨m, ?_, rfl, fun _ _ => rfl, fun _ _ => rfl, fun j hj => absurd hj (by simp [sp_rl])⟩
    rw [e_Finder_findRests_124 hk, br_leT (by omega) (by omega)]; rfl
  | succ r ih =>
    intro i f n m h1 h2 h3 hA
    obtain ⟨f, rfl⟩ : ∃ g, f = g + 1 := ⟨f - 1, by omega⟩
    have hr := s_isRest (d := d) (i := i) (by omega) hA hA1 hB1
    rw [sp_rl]
    cases e : sp_ir A B i 5 0 with
    | false =>
      obtain ⟨m', b1, b2, b3, b4, b5⟩ := ih (i + 1) f n m (by omega) (by omega) (by omega) hA
      rw [if_neg (by simp)]
      refine ⟨m', ?_, b2, b3, b4, b5⟩
      rw [e] at hr
      rw [e_Finder_findRests_124 hk, br_leF (by omega) (by omega), zn_div (by omega) (by omega), zn_rem (by omega) (by omega), hr, bI_s, br_zb, if_neg (by simp), zn_add, b1]
    | true =>
      obtain ⟨m', b1, b2, b3, b4, b5⟩ := ih (i + 1) f (n + 1) (am_w m.1 70 n (zn (10 * (i / 5) + i % 5)), m.2) (by omega) (by omega) (by omega) (fun j hj => by simp (disch := omega) only [w_ne, w_at, wl_ne, wl_at, wc_ne, wc_at, upd_at, upd_ne, upl_at, upl_ne, cpy_in0, zn_cl, zn_add, zn_mul, zn_sub, zn_pm, br_tt, br_ff, br_ltT, br_ltF, br_leT, br_leF, br_eqT, br_eqF, br_eqs, br_eqm, br_eqm', br_ltm, br_mlt, br_lem, br_mle, br_oiF, br_lgge, br_lgle, br_lggt, br_lglt, br_lgeq, br_zb, br_zb1, bV_s, bI_s, bL_s, zo_n, zo_s]; exact hA j hj)
      rw [if_pos rfl]
      refine ⟨m', ?_, b2, fun c hc => by rw [b3 c hc]; simp (disch := omega) only [w_ne, w_at, wl_ne, wl_at, wc_ne, wc_at, upd_at, upd_ne, upl_at, upl_ne, cpy_in0, zn_cl, zn_add, zn_mul, zn_sub, zn_pm, br_tt, br_ff, br_ltT, br_ltF, br_leT, br_leF, br_eqT, br_eqF, br_eqs, br_eqm, br_eqm', br_ltm, br_mlt, br_lem, br_mle, br_oiF, br_lgge, br_lgle, br_lggt, br_lglt, br_lgeq, br_zb, br_zb1, bV_s, bI_s, bL_s, zo_n, zo_s], fun j hj => by rw [b4 j (by omega)]; simp (disch := omega) only [w_ne, w_at, wl_ne, wl_at, wc_ne, wc_at, upd_at, upd_ne, upl_at, upl_ne, cpy_in0, zn_cl, zn_add, zn_mul, zn_sub, zn_pm, br_tt, br_ff, br_ltT, br_ltF, br_leT, br_leF, br_eqT, br_eqF, br_eqs, br_eqm, br_eqm', br_ltm, br_mlt, br_lem, br_mle, br_oiF, br_lgge, br_lgle, br_lggt, br_lglt, br_lgeq, br_zb, br_zb1, bV_s, bI_s, bL_s, zo_n, zo_s], ?_⟩
      · rw [e] at hr
        rw [e_Finder_findRests_124 hk, br_leF (by omega) (by omega), zn_div (by omega) (by omega), zn_rem (by omega) (by omega), hr, bI_s, br_zb, if_pos rfl, zn_add, zn_add, br_oiF (by omega) (by omega), zn_mul, zn_add, Nat.mul_comm (i / 5) 10, zn_cl (by omega), b1, List.length_cons, show n + 1 + (sp_rl A B r (i + 1)).length = n + ((sp_rl A B r (i + 1)).length + 1) from by omega]
      · intro j hj
        cases j with
        | zero => rw [Nat.add_zero, b4 n (by omega), List.getD_cons_zero]; simp (disch := omega) only [w_ne, w_at, wl_ne, wl_at, wc_ne, wc_at, upd_at, upd_ne, upl_at, upl_ne, cpy_in0, zn_cl, zn_add, zn_mul, zn_sub, zn_pm, br_tt, br_ff, br_ltT, br_ltF, br_leT, br_leF, br_eqT, br_eqF, br_eqs, br_eqm, br_eqm', br_ltm, br_mlt, br_lem, br_mle, br_oiF, br_lgge, br_lgle, br_lggt, br_lglt, br_lgeq, br_zb, br_zb1, bV_s, bI_s, bL_s, zo_n, zo_s]
        | succ j =>
          rw [List.length_cons] at hj
          rw [show n + (j + 1) = n + 1 + j from by omega, b5 j (by omega), List.getD_cons_succ]
theorem s_findRests {T G F : Td} {q : Sq} {w : List Nat} {day num a b : Nat} {m : am_M} (c : Core T G F q w day num m) (ha : a < T 0 0) (hb : b < T 0 0) (hab : a ≠ b) :
    ∃ m', am_c 7 y_Finder_findRests [.ref 25, .ref 71, .int (zn a), .int (zn b)] m = some (some (.int (zn (sp_rl (sp_gn T (gE G F) q w day a b a) (sp_gn T (gE G F) q w day a b b) 25 0).length)), m') ∧ fqC m m' ∧ ∀ j, j < (sp_rl (sp_gn T (gE G F) q w day a b a) (sp_gn T (gE G F) q w day a b b) 25 0).length → m'.1 70 j = zn ((sp_rl (sp_gn T (gE G F) q w day a b a) (sp_gn T (gE G F) q w day a b b) 25 0).getD j 0) := by
  have hk : sc_k 71 := Or.inr (Or.inr (Or.inl rfl))
  have hn5 := c.tw.n
  obtain ⟨f', m1, a1, a2, a3, a4⟩ := lp_fr1 (d := 1) c ha hb hab 25 0 29999 m (by omega) (by omega) ⟨fun _ _ => rfl, fun _ _ _ => rfl, fun _ _ => rfl⟩ (fun j hj => by omega)
  obtain ⟨m2, b1, b2, b3, b4⟩ := s_follow c.tc (d := 5) (m3 := m1) (fun p _ _ => a3.1 p (by omega)) (fun i hi => ⟨a3.2.1 i (by omega) (by omega), by rw [a3.1 48 (by omega)], by rw [a3.1 49 (by omega)]⟩) (fun i hi => by rw [a3.1 46 (by omega)])
  obtain ⟨g, rfl⟩ : ∃ g, f' = g + 26 := ⟨f' - 26, by omega⟩
  obtain ⟨m3, d1, d2, d3, d4, d5⟩ := lp_fr2 (A := sp_gn T (gE G F) q w day a b a) (B := sp_gn T (gE G F) q w day a b b) (d := 5) (x2 := zn a) (x3 := zn b) (fun j => gn_lt c.tw c.qw ha) (fun j => gn_lt c.tw c.qw hb) 25 0 (g + 26) 0 m2 (by omega) (by omega) (by omega) (fun j hj => by rw [b3 68 (by omega), b3 69 (by omega)]; exact a4 j hj)
  rw [Nat.zero_add] at d1
  refine ⟨m3, ?_, ⟨fun p hp => ?_, fun p hp => ?_⟩, fun j hj => by have := d5 j hj; rwa [Nat.zero_add] at this⟩
  · rw [n_Finder_findRests hk, a1, e_Finder_findRests_3 hk, br_leT (by omega) (by omega), b1, bV_s, d1]
  · rw [d3 p (by omega)]
    by_cases q1 : 46 ≤ p ∧ p ≤ 49
    · exact b4 p q1.1 q1.2
    · rw [b3 p (by omega), a3.1 p (by omega)]
  · rw [d2, b2, a3.2.2 p hp]
