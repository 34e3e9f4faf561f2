/-! rules -/
theorem senX.mono {T : Td} {n : Nat} {o : Option Nat} {S : Td} {m m' : am_M} (s : senX T n o S m) (e : ∀ c, 97 ≤ c ∧ c ≤ 100 ∨ c = 148 → m'.1 c = m.1 c) (e1 : m'.1 107 78 = m.1 107 78) (e2 : m'.1 107 79 = m.1 107 79) : senX T n o S m' :=
  ⟨s.n, s.o, s.w0, s.w1, by rw [e 97 (by omega)]; exact s.cn, by rw [e 97 (by omega)]; exact s.co, by rw [e 98 (by omega)]; exact s.c0, by rw [e 100 (by omega)]; exact s.c1, by rw [e 99 (by omega), e 100 (by omega)]; exact s.c2, by rw [e1]; exact s.rn, by rw [e2]; exact s.ro, by rw [e 148 (by omega)]; exact s.r1, by rw [e 148 (by omega)]; exact s.r2⟩
def V5 (T : Td) (k : Nat) : Td := fun r i => if r = 3 then k else V0 T r i
theorem tw5 {T : Td} {k : Nat} (W : tW T) (hk : k < 3) : tw T (V5 T k) := ⟨W.n, W.L, W.pl, W.sz, W.fg, hk, W.cm, W.hw, W.rc⟩
def sp_dl (T V : Td) (E : Ev) (S : Td) (K : Nat → Bool) (B : Nat) : Nat → Nat → Hs → List Nat → Bool
  | 0, _, _, _ => true
  | r + 1, day, h, w => if sp_ag T S K (sp_pass T V E (T 9) day (List.range (T 0 1)) (mt0 T) h w).1 (day + 1) B 0 = true then sp_dl T V E S K B r (day + 1) (sp_pass T V E (T 9) day (List.range (T 0 1)) (mt0 T) h w).1 (sp_pass T V E (T 9) day (List.range (T 0 1)) (mt0 T) h w).2 else false
def sp_rb (p : Nat → Bool) : Nat → Nat → Int32 → Int32
  | 0, _, a => a
  | r + 1, k, a => sp_rb p r (k + 1) (if p k = true then a ||| ((zn 1) <<< (zn k &&& 31)) else a)
theorem sw_0 {T : Td} (W : tW T) {day : Nat} (h : day < 5000) : sw T (List.range (T 0 1)) (T 9) (mt0 T) day := (qW_0 W).sw W h
theorem lp_agr {T V : Td} {E : Ev} {n d last : Nat} {o : Option Nat} {S : Td} {K : Nat → Bool} (W : tW T) (W' : tw T V) (hE : evW E) (hB : sp_by n o ≤ n) (hl : last ≤ 20) (r : Nat) :
    ∀ (day f : Nat) (h : Hs) (w : List Nat) (m : am_M), day + r = last → r < f → cx T V E m → sn 85 T (List.range (T 0 1)) (T 9) (mt0 T) h w day m → hwI (T 0 0) h w → senX T n o S m → (∀ i, i < T 0 0 → m.1 32 i = zn (T 6 i)) → (∀ j, j < 24 → m.1 101 j = zb (K j)) →
    ∃ m', r_C_agrees_21 (d + 5) f (zn last) (zn (day + 1)) m = some (some (.int (zb (sp_dl T V E S K (sp_by n o) r day h w))), m') ∧ fdy 85 m m' := by
  have hk : sc_k 85 := Or.inr (Or.inr (Or.inr (Or.inr rfl)))
  induction r with
  | zero =>
    intro day f h w m h1 h2 c s I se hlk hK
    obtain ⟨f, rfl⟩ : ∃ g, f = g + 1 := ⟨f - 1, by omega⟩
    refine ⟨m, ?_, fdy_refl 85 m⟩
    rw [e_C_agrees_21, br_ltT (by omega) (by omega)]; rfl
  | succ r ih =>
    intro day f h w m h1 h2 c s I se hlk hK
    obtain ⟨f, rfl⟩ : ∃ g, f = g + 1 := ⟨f - 1, by omega⟩
    have S0 := sw_0 W (day := day) (by omega)
    obtain ⟨m1, a1, a2, a3⟩ := s_pass hk W' hE S0 c s I (d := d)
    have I' := pass_hw (V := V) (E := E) (U := T 9) (day := day) (ord := List.range (T 0 1)) S0.ms I
    have e1 : ∀ p, p < 85 ∨ 87 < p → m1.1 p = m.1 p := fun p hp => a3.2.1 p (by omega) (by omega) (by omega)
    have se1 : senX T n o S m1 := se.mono (fun p hp => e1 p (by omega)) (by rw [e1 107 (by omega)]) (by rw [e1 107 (by omega)])
    have hlk1 : ∀ i, i < T 0 0 → m1.1 32 i = zn (T 6 i) := by rw [e1 32 (by omega)]; exact hlk
    have hK1 : ∀ j, j < 24 → m1.1 101 j = zb (K j) := by rw [e1 101 (by omega)]; exact hK
    have b1 := lp_ag (G := T) (F := T) (d := d + 3) (b := day + 1) se1 W hlk1 hK1 hB (by omega) (fun i hi => a2.hs i hi) (fun i a hi e => hw_h I' hi e) (sp_by n o) 0 29999 none (by omega) (by have := se.n; omega)
    rw [e_C_agrees_21, br_ltF (by omega) (by omega), a1, bV_s, n_Memory_agrees hk, b1, bI_s, br_zb, sp_dl, zn_add]
    cases e : sp_ag T S K (sp_pass T V E (T 9) day (List.range (T 0 1)) (mt0 T) h w).1 (day + 1) (sp_by n o) 0 with
    | false => rw [if_neg (by simp), if_neg (by simp)]; exact ⟨m1, rfl, a3⟩
    | true =>
      rw [if_pos rfl, if_pos rfl]
      obtain ⟨m', d1, d2⟩ := ih (day + 1) f _ _ m1 (by omega) (by omega) (c.mono (fun p _ _ => e1 p (by omega))) a2 I' se1 hlk1 hK1
      exact ⟨m', d1, fdy_tr a3 d2⟩
def fq5 (m m' : am_M) : Prop := (∀ c, c ≤ 24 ∨ 27 ≤ c ∧ c ≤ 45 ∨ 47 ≤ c ∧ c ≤ 49 ∨ 71 ≤ c ∧ c ≤ 84 ∨ 97 ≤ c → m'.1 c = m.1 c) ∧ (∀ i, i ≠ 3 → m'.1 46 i = m.1 46 i) ∧ ∀ c, 107 ≤ c → m'.2 c = m.2 c
theorem lp_rules {T G F : Td} {q : Sq} {w : List Nat} {day num n : Nat} {o : Option Nat} {S : Td} {K : Nat → Bool} {m0 : am_M} (c : Core T G F q w day num m0) (se : senX T n o S m0) (hK : ∀ j, j < 24 → m0.1 101 j = zb (K j)) (hB : sp_by n o ≤ n) (r : Nat) :
    ∀ (k f : Nat) (acc : Int32) (m : am_M), k + r = 3 → r < f → fq5 m0 m →
    ∃ m', r_C_rules_11 7 f acc (zn k) m = some (some (.int (sp_rb (fun k => sp_dl T (V5 T k) (gE G F) S K (sp_by n o) (sp_ld S K (sp_by n o) 0 0) 0 h0 []) r k acc)), m') ∧ fqC m0 m' := by
  have hk : sc_k 85 := Or.inr (Or.inr (Or.inr (Or.inr rfl)))
  have hE := gE_evW c.gw c.gf
  induction r with
  | zero =>
    intro k f acc m h1 h2 fq
    obtain ⟨f, rfl⟩ : ∃ g, f = g + 1 := ⟨f - 1, by omega⟩
    obtain ⟨m4, b1, b2, b3, b4⟩ := s_follow (d := 6) c.tc (m3 := m) (fun p p1 p2 => fq.1 p (by omega)) (fun i hi => by rw [fq.1 47 (by omega), fq.1 48 (by omega), fq.1 49 (by omega)]; exact ⟨rfl, rfl, rfl⟩) (fun i hi => fq.2.1 i hi)
    refine ⟨m4, ?_, ?_, ?_⟩
    · rw [e_C_rules_11, br_ltT (by omega) (by omega), b1, bV_s]; rfl
    · intro p hp
      by_cases g : 46 ≤ p ∧ p ≤ 49
      · exact b4 p g.1 g.2
      · rw [b3 p (by omega), fq.1 p (by omega)]
    · intro p hp; rw [b2]; exact fq.2.2 p hp
  | succ r ih =>
    intro k f acc m h1 h2 fq
    obtain ⟨f, rfl⟩ : ∃ g, f = g + 1 := ⟨f - 1, by omega⟩
    let m1 : am_M := (am_w m.1 46 3 (zn k), m.2)
    have e1 : ∀ p, p ≠ 46 → m1.1 p = m.1 p := fun p hp => by show (am_w m.1 46 3 (zn k)) p = _; simp (disch := omega) only [w_ne, w_at, wl_ne, wl_at, wc_ne, wc_at, upd_at, upd_ne, upl_at, upl_ne, cpy_in0, zn_cl, zn_add, zn_mul, zn_sub, zn_pm, br_tt, br_ff, br_ltT, br_ltF, br_leT, br_leF, br_eqT, br_eqF, br_eqs, br_eqm, br_eqm', br_ltm, br_mlt, br_lem, br_mle, br_oiF, br_lgge, br_lgle, br_lggt, br_lglt, br_lgeq, br_zb, br_zb1, bV_s, bI_s, bL_s, zo_n, zo_s]
    have X0 := c.tc.cx c.gw
    have X1 : cx T (V5 T k) (gE G F) m1 := by
      refine ⟨?_, ?_, ?_, ?_, ?_, ?_, ?_, ?_, ?_, ?_⟩
      · rw [e1 27 (by omega), fq.1 27 (by omega)]; exact X0.n
      · rw [e1 27 (by omega), fq.1 27 (by omega)]; exact X0.L
      · rw [e1 29 (by omega), fq.1 29 (by omega)]; exact X0.pl
      · rw [e1 30 (by omega), fq.1 30 (by omega)]; exact X0.sz
      · rw [e1 27 (by omega), fq.1 27 (by omega)]; exact X0.fg
      · show (am_w m.1 46 3 (zn k)) 46 3 = zn k; simp (disch := omega) only [w_ne, w_at, wl_ne, wl_at, wc_ne, wc_at, upd_at, upd_ne, upl_at, upl_ne, cpy_in0, zn_cl, zn_add, zn_mul, zn_sub, zn_pm, br_tt, br_ff, br_ltT, br_ltF, br_leT, br_leF, br_eqT, br_eqF, br_eqs, br_eqm, br_eqm', br_ltm, br_mlt, br_lem, br_mle, br_oiF, br_lgge, br_lgle, br_lggt, br_lglt, br_lgeq, br_zb, br_zb1, bV_s, bI_s, bL_s, zo_n, zo_s]
      · rw [e1 47 (by omega), fq.1 47 (by omega)]; exact X0.cm
      · rw [e1 48 (by omega), fq.1 48 (by omega)]; exact X0.hw
      · rw [e1 49 (by omega), fq.1 49 (by omega)]; exact X0.rc
      · exact lwC_mono X0.lw (fun p _ _ => by rw [e1 p (by omega), fq.1 p (by omega)])
    have g1 : ∀ p, 27 ≤ p → p ≤ 45 → m1.1 p = m0.1 p := fun p _ _ => by rw [e1 p (by omega), fq.1 p (by omega)]
    obtain ⟨m2, a1, a2, a3, a4⟩ := s_begin hk c.tw (d := 5) (m := m1) (by rw [g1 27 (by omega) (by omega)]; exact c.tc.n) (by rw [g1 27 (by omega) (by omega)]; exact c.tc.L) (by rw [g1 27 (by omega) (by omega)]; exact c.tc.mn) (by rw [g1 27 (by omega) (by omega)]; exact c.tc.sd) (by rw [g1 35 (by omega) (by omega)]; exact c.tc.hu) (by rw [g1 37 (by omega) (by omega), g1 38 (by omega) (by omega)]; exact c.tc.ms)
    have e2 : ∀ p, p < 85 ∨ 91 < p → p ≠ 46 → m2.1 p = m.1 p := fun p hp hq => by rw [a4.2 p (by omega), e1 p hq]
    have e20 : ∀ p, 97 ≤ p → m2.1 p = m0.1 p := fun p hp => by rw [e2 p (by omega) (by omega), fq.1 p (by omega)]
    have se2 : senX T n o S m2 := se.mono (fun p hp => e20 p (by omega)) (by rw [e20 107 (by omega)]) (by rw [e20 107 (by omega)])
    have hK2 : ∀ j, j < 24 → m2.1 101 j = zb (K j) := by rw [e20 101 (by omega)]; exact hK
    have hn := se.n
    have hld := ld_le (K := K) se.tb.d (sp_by n o) 0 0 (by omega) (by omega)
    have b1 := lp_ld (d := 4) se2 hK2 hB (sp_by n o) 0 29999 0 (by omega) (by omega) (by omega)
    obtain ⟨m3, d1, d2⟩ := lp_agr (d := 1) c.tw (tw5 c.tw (by omega)) hE hB hld (sp_ld S K (sp_by n o) 0 0) 0 29999 h0 [] m2 (by omega) (by omega) (X1.mono (fun p _ _ => a4.2 p (by omega))) a2 (hw_0 _) se2 (by rw [e2 32 (by omega) (by omega), fq.1 32 (by omega)]; exact c.tc.lk) hK2
    have e3 : ∀ p, p < 85 ∨ 91 < p → p ≠ 46 → m3.1 p = m.1 p := fun p hp hq => by rw [d2.2.1 p (by omega) (by omega) (by omega), e2 p hp hq]
    have fq3 : fq5 m0 m3 := ⟨fun p hp => by rw [e3 p (by omega) (by omega), fq.1 p hp], fun i hi => by rw [d2.2.1 46 (by omega) (by omega) (by omega), a4.2 46 (by omega)]; show (am_w m.1 46 3 (zn k)) 46 i = _; simp (disch := omega) only [w_ne, w_at, wl_ne, wl_at, wc_ne, wc_at, upd_at, upd_ne, upl_at, upl_ne, cpy_in0, zn_cl, zn_add, zn_mul, zn_sub, zn_pm, br_tt, br_ff, br_ltT, br_ltF, br_leT, br_leF, br_eqT, br_eqF, br_eqs, br_eqm, br_eqm', br_ltm, br_mlt, br_lem, br_mle, br_oiF, br_lgge, br_lgle, br_lggt, br_lglt, br_lgeq, br_zb, br_zb1, bV_s, bI_s, bL_s, zo_n, zo_s]; exact fq.2.1 i hi, fun p hp => by rw [d2.1 p (by omega) (by omega) (by omega) (by omega), a4.1]; exact fq.2.2 p hp⟩
    have a1' : am_c 6 y_Scene_begin [.ref 85, .ref 27] (am_w m.1 46 3 (zn k), m.2) = some (none, m2) := a1
    rw [e_C_rules_11, br_ltF (by omega) (by omega), n_C_agrees, a1', bV_s, n_Memory_lastDay, b1, bI_s, d1, bI_s, br_zb, sp_rb, zn_add]
    cases e : sp_dl T (V5 T k) (gE G F) S K (sp_by n o) (sp_ld S K (sp_by n o) 0 0) 0 h0 [] with
    | false => rw [if_neg (by simp), if_neg (by simp)]; exact ih (k + 1) f acc m3 (by omega) (by omega) fq3
    | true => rw [if_pos rfl, if_pos rfl]; exact ih (k + 1) f _ m3 (by omega) (by omega) fq3
theorem lq_161 {T G F V : Td} {n d last k : Nat} {o : Option Nat} {S : Td} {K : Nat → Bool} {acc : Int32} (W : tW T) (W' : tw T V) (hE : evW (gE G F)) (hB : sp_by n o ≤ n) (hl : last ≤ 20) (r : Nat) :
    ∀ (day f : Nat) (h : Hs) (w : List Nat) (m : am_M), day + r = last → r + 1 < f → rx T V (gE G F) m → rn 1 T (List.range (T 0 1)) (T 9) (mt0 T) h w day m → hwI (T 0 0) h w → senX T n o S m → tR T G F m → (∀ j, j < sp_by n o → m.1 149 j = zb (!K j)) →
    ∃ f' y4 y5 m', r_M_rules_161 (d + 6) f (zn last) acc (zn k) (zn 1) (zn (day + 1)) m = r_M_rules_141 (d + 6) f' (zn last) (if sp_dl T V (gE G F) S K (sp_by n o) r day h w = true then acc ||| ((zn 1) <<< (zn k &&& 31)) else acc) (zn (k + 1)) y4 y5 m' ∧ f ≤ f' + r + 2 ∧ fqT m m' := by
  induction r with
  | zero =>
    intro day f h w m h1 h2 c s I se tr hK
    obtain ⟨f, rfl⟩ : ∃ g, f = g + 1 := ⟨f - 1, by omega⟩
    refine ⟨f, some (.int (zn 1)), some (.int (zn (day + 1))), m, ?_, by omega, fqT_refl m⟩
    rw [e_M_rules_161, br_ltT (by omega) (by omega), br_eqF (by omega) (by omega) (by omega), zn_add, sp_dl, if_pos rfl]
  | succ r ih =>
    intro day f h w m h1 h2 c s I se tr hK
    obtain ⟨f, rfl⟩ : ∃ g, f = g + 1 := ⟨f - 1, by omega⟩
    have S0 := sw_0 W (day := day) (by omega)
    obtain ⟨m1, a1, a2, a3⟩ := s_goOn (b := 1) (by omega) W' hE S0 c s I (d := d)
    have I' := pass_hw (V := V) (E := gE G F) (U := T 9) (day := day) (ord := List.range (T 0 1)) S0.ms I
    have fT := a3.T
    have se1 : senX T n o S m1 := se.mono (fun p hp => fT.c p (by omega)) (fT.f 78 (by omega)) (fT.f 79 (by omega))
    have hK1 : ∀ j, j < sp_by n o → m1.1 149 j = zb (!K j) := by rw [fT.c 149 (by omega)]; exact hK
    have tr1 := tr.T fT
    have b1 := lq_ag (d := d + 3) (b := day + 1) se1 tr1 W hK1 hB (by omega) (by omega) (fun i hi => a2.hs i hi) (fun i a hi e => hw_h I' hi e) (sp_by n o) 0 29999 none (by omega) (by have := se.n; omega)
    rw [e_M_rules_161, br_ltF (by omega) (by omega), br_eqF (by omega) (by omega) (by omega), a1, bV_s, n_M_isSo, b1, bI_s, sp_dl, zn_add]
    cases e : sp_ag T S K (sp_pass T V (gE G F) (T 9) day (List.range (T 0 1)) (mt0 T) h w).1 (day + 1) (sp_by n o) 0 with
    | true =>
      obtain ⟨f', y4, y5, m', d1, d0, d2⟩ := ih (day + 1) f _ _ m1 (by omega) (by omega) (c.fy a3) a2 I' se1 tr1 hK1
      rw [if_pos rfl]
      exact ⟨f', y4, y5, m', d1, by omega, fqT_tr fT d2⟩
    | false =>
      obtain ⟨f, rfl⟩ : ∃ g, f = g + 1 := ⟨f - 1, by omega⟩
      refine ⟨f, some (.int (zb false)), some (.int (zn (day + 1 + 1))), m1, ?_, by omega, fT⟩
      rw [e_M_rules_161, br_zb, br_zb, zn_add, or_z]
      simp only [Bool.false_eq_true, if_false]
      by_cases g : last < day + 1 + 1
      · rw [br_ltT g (by omega)]
      · rw [br_ltF (by omega) (by omega)]
theorem lq_141 {T G F : Td} {n d last : Nat} {o : Option Nat} {S : Td} {K : Nat → Bool} {m0 : am_M} (W : tW T) (gw : gW G F) (hE : evW (gE G F)) (hB : sp_by n o ≤ n) (hl : last ≤ 20) (kp : kpt m0) (r : Nat) :
    ∀ (k f : Nat) (acc : Int32) (y4 y5 : Option Value) (m : am_M), k + r = 3 → 100 * r < f → tR T G F m → senX T n o S m → (∀ j, j < sp_by n o → m.1 149 j = zb (!K j)) → fqT m0 m →
    ∃ m', r_M_rules_141 (d + 6) f (zn last) acc (zn k) y4 y5 m = some (some (.int (sp_rb (fun k => sp_dl T (V5 T k) (gE G F) S K (sp_by n o) last 0 h0 []) r k acc)), m') ∧ fqR m0 m' := by
  induction r with
  | zero =>
    intro k f acc y4 y5 m h1 h2 tr se hK fq
    obtain ⟨f, rfl⟩ : ∃ g, f = g + 1 := ⟨f - 1, by omega⟩
    obtain ⟨m', b1, b2⟩ := s_takes (d := d + 5) kp fq
    refine ⟨m', ?_, b2⟩
    rw [e_M_rules_141, br_leT (by omega) (by omega), b1, bV_s]; rfl
  | succ r ih =>
    intro k f acc y4 y5 m h1 h2 tr se hK fq
    obtain ⟨f, rfl⟩ : ∃ g, f = g + 1 := ⟨f - 1, by omega⟩
    obtain ⟨m1, a1, a2, a3, a4⟩ := s_layText W tr (d := d + 4)
    have tr1 := tr.T a4
    have R := tr1.rx a2 W gw
    let m2 : am_M := (am_w m1.1 107 59 (zn k), m1.2)
    have e2 : ∀ p, p ≠ 107 → m2.1 p = m1.1 p := fun p hp => by show (am_w m1.1 107 59 (zn k)) p = _; simp (disch := omega) only [w_ne, w_at, wl_ne, wl_at, wc_ne, wc_at, upd_at, upd_ne, upl_at, upl_ne, cpy_in0, zn_cl, zn_add, zn_mul, zn_sub, zn_pm, br_tt, br_ff, br_ltT, br_ltF, br_leT, br_leF, br_eqT, br_eqF, br_eqs, br_eqm, br_eqm', br_ltm, br_mlt, br_lem, br_mle, br_oiF, br_lgge, br_lgle, br_lggt, br_lglt, br_lgeq, br_zb, br_zb1, bV_s, bI_s, bL_s, zo_n, zo_s]
    have e7 : ∀ i, i ≠ 59 → m2.1 107 i = m1.1 107 i := fun i hi => by show (am_w m1.1 107 59 (zn k)) 107 i = _; simp (disch := omega) only [w_ne, w_at, wl_ne, wl_at, wc_ne, wc_at, upd_at, upd_ne, upl_at, upl_ne, cpy_in0, zn_cl, zn_add, zn_mul, zn_sub, zn_pm, br_tt, br_ff, br_ltT, br_ltF, br_leT, br_leF, br_eqT, br_eqF, br_eqs, br_eqm, br_eqm', br_ltm, br_mlt, br_lem, br_mle, br_oiF, br_lgge, br_lgle, br_lggt, br_lglt, br_lgeq, br_zb, br_zb1, bV_s, bI_s, bL_s, zo_n, zo_s]
    have f2 : fqT m1 m2 := ⟨fun p hp => e2 p (by omega), fun i _ => by rw [e2 132 (by omega), e2 133 (by omega)]; exact ⟨rfl, rfl⟩, by rw [e2 134 (by omega)], by rw [e2 135 (by omega)], fun i _ => by rw [e2 136 (by omega)], fun i _ => by rw [e2 138 (by omega), e2 139 (by omega)]; exact ⟨rfl, rfl⟩, fun i hi => e7 i (by omega), fun _ _ => rfl, rfl, rfl⟩
    have R2 : rx T (V5 T k) (gE G F) m2 := by
      refine ⟨?_, ?_, ?_, ?_, ?_, ?_, ?_, ?_, ?_, ?_⟩
      · rw [e7 12 (by omega)]; exact R.n
      · rw [e7 13 (by omega)]; exact R.L
      · rw [e2 113 (by omega)]; exact R.pl
      · rw [e2 114 (by omega)]; exact R.sz
      · rw [e2 111 (by omega)]; exact R.fg
      · show (am_w m1.1 107 59 (zn k)) 107 59 = zn k; simp (disch := omega) only [w_ne, w_at, wl_ne, wl_at, wc_ne, wc_at, upd_at, upd_ne, upl_at, upl_ne, cpy_in0, zn_cl, zn_add, zn_mul, zn_sub, zn_pm, br_tt, br_ff, br_ltT, br_ltF, br_leT, br_leF, br_eqT, br_eqF, br_eqs, br_eqm, br_eqm', br_ltm, br_mlt, br_lem, br_mle, br_oiF, br_lgge, br_lgle, br_lggt, br_lglt, br_lgeq, br_zb, br_zb1, bV_s, bI_s, bL_s, zo_n, zo_s]
      · rw [e2 140 (by omega)]; exact R.cm
      · rw [e7 63 (by omega), e7 62 (by omega), e2 117 (by omega)]; exact R.hw
      · rw [e7 61 (by omega), e2 119 (by omega)]; exact R.rc
      · exact lwR_mono R.lw (fun p _ _ => e2 p (by omega))
    have s2 : rn 1 T (List.range (T 0 1)) (T 9) (mt0 T) h0 [] 0 m2 := by
      unfold rn
      rw [e7 64 (by omega), e7 65 (by omega), e7 66 (by omega), e7 60 (by omega), e7 55 (by omega), e2 132 (by omega), e2 133 (by omega), e2 134 (by omega), e2 135 (by omega), e2 136 (by omega), e2 137 (by omega), e2 138 (by omega), e2 139 (by omega)]
      exact a3
    have fT := fqT_tr a4 f2
    have se2 : senX T n o S m2 := se.mono (fun p hp => fT.c p (by omega)) (fT.f 78 (by omega)) (fT.f 79 (by omega))
    have hK2 : ∀ j, j < sp_by n o → m2.1 149 j = zb (!K j) := by rw [fT.c 149 (by omega)]; exact hK
    obtain ⟨f', z4, z5, m3, d1, d0, d2⟩ := lq_161 (d := d) (k := k) (acc := acc) W (tw5 W (by omega)) hE hB hl last 0 f h0 [] m2 (by omega) (by omega) R2 s2 (hw_0 _) se2 (tr.T fT) hK2
    have f3 := fqT_tr fT d2
    obtain ⟨m', g1, g2⟩ := ih (k + 1) f' (if sp_dl T (V5 T k) (gE G F) S K (sp_by n o) last 0 h0 [] = true then acc ||| ((zn 1) <<< (zn k &&& 31)) else acc) z4 z5 m3 (by omega) (by omega) (tr.T f3) (se.mono (fun p hp => f3.c p (by omega)) (f3.f 78 (by omega)) (f3.f 79 (by omega))) (by rw [f3.c 149 (by omega)]; exact hK) (fqT_tr fq f3)
    refine ⟨m', ?_, g2⟩
    rw [e_M_rules_141, br_leF (by omega) (by omega), a1, bV_s, d1, sp_rb, g1]
theorem k_rules : ask y_C_rules y_M_rules [] := by
  refine ask_of fun T G F q w day num m c r => ?_
  obtain ⟨n, o, S, se⟩ := r.se
  have hn := se.n
  have hE := gE_evW c.gw c.gf
  have hB : sp_by n o ≤ n := by cases h : o with | none => exact Nat.le_refl _ | some b => exact se.o b h
  obtain ⟨m1, a1, a2, a3, a4⟩ := s_judge (d := 5) se
  have fq1 : fqC m m1 := ⟨fun p hp => a3 p (by omega), fun p _ => by rw [a2]⟩
  have c1 := c.qC fq1
  have se1 : senX T n o S m1 := se.mono (fun p hp => a3 p (by omega)) (by rw [a3 107 (by omega)]) (by rw [a3 107 (by omega)])
  obtain ⟨m2, b1, b2⟩ := lp_rules c1 se1 a4 hB 3 0 29999 (zn 0) m1 (by omega) (by omega) ⟨fun _ _ => rfl, fun _ _ => rfl, fun _ _ => rfl⟩
  refine ⟨_, m2, by rw [n_C_rules, a1, bV_s]; exact b1, fqC_tr fq1 b2, fun c3 r3 => ?_⟩
  have c4 := c3.qR (fqR_th m2 (zn 0))
  have f4 := fqR_th m2 (zn 0)
  have se3 : senX T n o S m2 := se1.mono (fun p hp => b2.1 p (by omega)) (by rw [b2.1 107 (by omega)]) (by rw [b2.1 107 (by omega)])
  have se4 : senX T n o S (am_w m2.1 107 2 (zn 0), m2.2) := se3.mono (fun p hp => f4.c p (by omega)) (f4.f 78 (by omega)) (f4.f 79 (by omega))
  obtain ⟨f5, m5, d1, d0, d2, d3, d4⟩ := lq_c0 (d := 6) (x1 := zn 0) hB (sp_by n o) 0 29999 _ (by omega) (by omega) se4 (fun j hj => by omega)
  have se5 : senX T n o S m5 := se4.mono (fun p hp => d3 p (by omega)) (by rw [d3 107 (by omega)]) (by rw [d3 107 (by omega)])
  obtain ⟨f6, m6, g1, g0, g2, g3, g4⟩ := lq_jd (d := 7) (x1 := zn 0) hB (sp_by n o) f5 K0 m5 (Nat.le_refl _) (by omega) se5.tb (by intro j hj; rw [d4 j hj]; rfl)
  have se6 : senX T n o S m6 := se5.mono (fun p hp => g3 p (by omega)) (by rw [g3 107 (by omega)]) (by rw [g3 107 (by omega)])
  obtain ⟨f7, i1, i0⟩ := lq_ld (d := 6) se6 g4 hB (sp_by n o) 0 f6 0 (by omega) (by omega) (by omega)
  obtain ⟨m7, j1, j2, j3, j4⟩ := s_keeps (d := 6) (m := m6)
  have e7 : ∀ p, p ≠ 149 → p ≠ 150 → m7.1 p = (am_w m2.1 107 2 (zn 0)) p := fun p p1 p2 => by rw [j4 p p2, g3 p p1, d3 p p1]
  have fq7 : fqR (am_w m2.1 107 2 (zn 0), m2.2) m7 := ⟨fun p hp => e7 p (by omega) (by omega), fun i _ => by rw [e7 132 (by omega) (by omega), e7 133 (by omega) (by omega), e7 137 (by omega) (by omega)]; exact ⟨rfl, rfl, rfl⟩, by rw [e7 134 (by omega) (by omega)], by rw [e7 135 (by omega) (by omega)], fun i _ => by rw [e7 107 (by omega) (by omega)], fun p _ => by rw [j3, g2, d2], by rw [j3, g2, d2], by rw [j3, g2, d2]⟩
  have c7 := c4.qR fq7
  have se7 : senX T n o S m7 := se6.mono (fun p hp => j4 p (by omega)) (by rw [j4 107 (by omega)]) (by rw [j4 107 (by omega)])
  have hld := ld_le (K := sp_jd S (sp_by n o) K0) se.tb.d (sp_by n o) 0 0 (by omega) (by omega)
  obtain ⟨m8, k1, k2⟩ := lq_141 (d := 1) (K := sp_jd S (sp_by n o) K0) c.tw c.gw hE hB hld j2 3 0 f7 (zn 0) none none m7 (by omega) (by omega) c7.tr se7 (by rw [j4 149 (by omega)]; exact g4) (fqT_refl m7)
  refine ⟨m8, ?_, fqR_tr f4 (fqR_tr fq7 k2)⟩
  rw [n_M_rules, d1, e_M_rules_9, s_knownBy se5, bI_s, br_leT (by omega) (by omega), s_knownBy se5, bI_s, zp_sub, g1, i1, e_M_rules_85, s_knownBy se6, bI_s, br_leT (by omega) (by omega), j1, bV_s, k1]
