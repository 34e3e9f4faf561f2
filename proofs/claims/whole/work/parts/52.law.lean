/-! a law asked for -/
theorem law_127 {T V : Td} {E : Ev} {it nx : Nat} {x1 x2 x3 : Int32} {m : am_M} {tl : Nat → Bool} (hE : evW E) (hl : it < 3) (ht : tl it = true) (h3 : ∀ l, l < 3 → tl l = true → ∀ d m', (∀ c, 122 ≤ c → c ≤ 127 → m'.1 c = m.1 c) → nmB (m'.2 130) → ∃ m'' v, am_c (d + 3) y_M_lawOf [.ref 107, .int (zn l)] m' = some (some (.long v), m'') ∧ ((E l (m'.2 130) = none ∧ m''.1 107 48 = zn 1) ∨ (E l (m'.2 130) = some v ∧ m''.1 107 48 = zn 0)) ∧ (∀ c, c ≠ 107 → m''.1 c = m'.1 c) ∧ (∀ i, i ≠ 48 → m''.1 107 i = m'.1 107 i) ∧ ∀ c, c ≠ 131 → m''.2 c = m'.2 c) {m' : am_M} (e : ∀ c, 122 ≤ c → c ≤ 127 → m'.1 c = m.1 c) {a b c d f g h : Nat} (hn : ∀ i, i < 7 → m'.2 130 i = sp_nm a b c d f g h i) :
    ∃ m2, r_M_law_127 7 (nx + 1) x1 x2 x3 (zn it) m' = some (some (.long ((E it (sp_nm a b c d f g h)).getD lmin)), m2) ∧ frl m' m2 := by
  obtain ⟨m2, v, b1, b2, b3, b4, b5⟩ := h3 it hl ht 4 m' e (nmB_of hn)
  refine ⟨m2, ?_, b3, b4, fun p p1 p2 => b5 p p2⟩
  rw [hE.1 it _ _ hn] at b2
  rw [e_M_law_127, b1, bL_s]
  rcases b2 with ⟨q1, q2⟩ | ⟨q1, q2⟩
  · rw [q1, q2, br_eqF (by omega) (by omega) (by omega)]; rfl
  · rw [q1, q2, br_eqT rfl]; rfl
theorem k_law (x y z : Int32) : ask y_C_law y_M_law [.int x, .int y, .int z] := by
  refine ask_of fun T G F q w day num m c r => ?_
  have hE := gE_evW c.gw c.gf
  have hk : sc_k 71 := Or.inr (Or.inr (Or.inl rfl))
  have hn5 := c.tw.n; have hL := c.tw.L
  have i1 := s_isThingC c.tc c.tw (d := 6) (x := y)
  have i2 := s_isLampC c.tc c.tw (d := 6) (x := z)
  have c2 := c.qR (fqR_th m (zn 0))
  have hb : ∀ i s, i < T 0 0 → q.2.2.2 i = some s → s < T 0 0 := fun i s hi e => hw_h c.qw.hw hi e
  have ho : ∀ l, l ∈ q.1 → l < 5 := fun l hl => by have := c.qw.om l hl; omega
  -- the reference up to its trial
  have refIn : ∀ m1, Core T G F q w day num m1 → am_c 8 y_M_law [.ref 107, .int x, .int y, .int z] m1 = if isR (0 : Nat) (2 : Nat) x = true ∧ isN (T 0 0) y = true ∧ (x = zn 2 → isN (T 0 1) z = true) then r_M_law_39 7 29999 x y z (am_w m1.1 107 2 (zn 0), m1.2) else some (some (.long lmin), (am_w m1.1 107 2 (zn 0), m1.2)) := by
    intro m1 c1
    have c3 := c1.qR (fqR_th m1 (zn 0))
    rw [n_M_law, s_isInN (by omega) (by omega), bI_s, br_zb, s_isThingR c3.tr c.tw, bI_s, br_zb, br_eq, s_isLampR c3.tr c.tw, bI_s, br_zb]
    by_cases e1 : isR (0 : Nat) (2 : Nat) x = true
    · rw [if_pos e1]
      by_cases e2 : isN (T 0 0) y = true
      · rw [if_pos e2]
        by_cases e3 : x = zn 2
        · rw [if_pos e3]
          by_cases e4 : isN (T 0 1) z = true
          · rw [if_pos e4, if_pos ⟨e1, e2, fun _ => e4⟩]
          · rw [if_neg e4, if_neg (fun h => e4 (h.2.2 e3))]
        · rw [if_neg e3, if_pos ⟨e1, e2, fun h => absurd h e3⟩]
      · rw [if_neg e2, if_neg (fun h => e2 h.2.1)]
    · rw [if_neg e1, if_neg (fun h => e1 h.1)]
  by_cases ok : isR (0 : Nat) (2 : Nat) x = true ∧ isN (T 0 0) y = true ∧ (x = zn 2 → isN (T 0 1) z = true)
  · obtain ⟨e1, e2, e3⟩ := ok
    obtain ⟨k, _, k2, hx⟩ := isR_t e1
    obtain ⟨t, ht, hy⟩ := isN_t e2
    have start : am_c 8 y_C_law [.ref 0, .int x, .int y, .int z] m = am_b (am_eq x (zn 0)) (am_bL (am_c 7 y_Day_worth [.ref 26, .ref 71, .int (zn 0), .int y] m) (fun r10 m9 => some (some (.long r10), m9))) (am_b (am_eq x (zn 1)) (am_bL (am_c 7 y_Day_worth [.ref 26, .ref 71, .int (zn 2), .int y] m) (fun r8 m7 => some (some (.long r8), m7))) (am_bI (am_c 7 y_C_isLamp [.ref 0, .int z] m) (fun r4 m3 => am_b (am_eq r4 (zn 0)) (some (some (.long lmin), m3)) (am_bL (am_c 7 y_Day_nearWorth [.ref 26, .ref 71, .int y, .int z] m3) (fun r6 m5 => some (some (.long r6), m5)))))) := by
      rw [n_C_law, i1, e2, bI_s, br_zb, if_pos rfl, isR_le (by omega) (by omega), if_pos e1]
    -- one of the two laws without a lamp
    have one : ∀ (it : Nat), it < 3 → (am_c 8 y_C_law [.ref 0, .int x, .int y, .int z] m = am_bL (am_c 7 y_Day_worth [.ref 26, .ref 71, .int (zn it), .int (zn t)] m) (fun r m => some (some (.long r), m))) →
        (∀ m, r_M_law_39 7 29999 x y z m = am_b (am_eq (m.1 122 it) (zn 0)) (some (some (.long lmin), m)) (am_bV (am_c 7 y_M_plainTried [.ref 107] m) (fun m15 => am_bI (am_c 7 y_M_sizeHad [.ref 107, .int (zn 0), .int (zn t)] m15) (fun r17 m16 => am_bV (am_c 7 y_M_layNames [.ref 107, .int (zn 0), .int (zn t), .int r17, .int (zn 0), .int (zn 0)] m16) (fun m18 => r_M_law_127 7 29998 x y z (zn it) m18))))) →
        ∃ r m1, am_c 8 y_C_law [.ref 0, .int x, .int y, .int z] m = some (r, m1) ∧ fqC m m1 ∧ (Core T G F q w day num m1 → Rest T q w m1 → ∃ m2, am_c 8 y_M_law [.ref 107, .int x, .int y, .int z] m1 = some (r, m2) ∧ fqR m1 m2) := by
      intro it hit hc hr
      obtain ⟨m1, a1, a2⟩ := s_worth hk c.tw.tw hE (c.tc.cx c.gw) c.sc.hs hb c.sc.dy (d := 4) (t := t) (l := it) ht hit
      refine ⟨some (.long ((sp_wor T (V0 T) (gE G F) day q.2.2.2 it t).getD lmin)), m1, by rw [hc, a1, bL_s], a2.q, fun c1 r1 => ?_⟩
      rw [refIn m1 c1, if_pos ⟨e1, e2, e3⟩, hr]
      have f1 := fqR_th m1 (zn 0)
      have c3 := c1.qR f1
      obtain ⟨tl, h1, h2, h3⟩ := gR_lw c.gw c3.tr.lw
      rw [h1 it hit]
      cases e : tl it with
      | false =>
        refine ⟨(am_w m1.1 107 2 (zn 0), m1.2), ?_, f1⟩
        unfold sp_wor; rw [h2 it hit e]; rfl
      | true =>
        rw [zb_t, br_eqF (by omega) (by omega) (by omega)]
        obtain ⟨m2, b1, b2, b3⟩ := s_plainT c3.tr c.tw c3.nr.os (d := 6)
        have c4 := c3.qR b3.q
        have rn0 := c4.nr.rn0 b2 ho hL
        have rx0 := c4.tr.rx b2 c.tw c.gw
        have s0 := s_sizeHad (b := 0) c.tw.tw rx0 (by omega) rn0.hs hb (d := 6) ht
        obtain ⟨m3, g1, g2, g3, g4⟩ := s_layNames (b := 0) c.tw.tw rx0 (by omega) rn0.hs hb rn0.dy (d := 5) (z := sp_szo T (q.2.2.2 t)) (far := 0) (l := 0) ht
        obtain ⟨m4, p1, p2⟩ := law_127 (T := T) (V := V0 T) (nx := 29997) (x1 := x) (x2 := y) (x3 := z) hE hit e h3 (m' := m3) (fun p _ _ => by rw [g2, b3.2.1 p (by omega) (by omega) (by omega)]) g4
        refine ⟨m4, ?_, fqR_tr f1 (fqR_tr b3.q (fqR_tr (frl.q ⟨fun p _ => by rw [g2], fun i _ => by rw [g2], fun p p1 _ => g3 p p1⟩) p2.q))⟩
        rw [b1, bV_s, s0, bI_s, g1, bV_s, p1]; rfl
    rcases (by omega : k = 0 ∨ k = 1 ∨ k = 2) with e | e | e
    · subst e
      refine one 0 (by omega) ?_ ?_
      · rw [start, hx, hy, br_eqT rfl]
      · intro m; rw [e_M_law_39 7 29998, hx, hy]; simp (disch := omega) only [↓br_eqT, ↓br_eqF]
    · subst e
      refine one 2 (by omega) ?_ ?_
      · rw [start, hx, hy, br_eqF (by omega) (by omega) (by omega), br_eqT rfl]
      · intro m; rw [e_M_law_39 7 29998, hx, hy]; simp (disch := omega) only [↓br_eqT, ↓br_eqF]
    · subst e
      have ez := e3 hx
      obtain ⟨l, hl, hz⟩ := isN_t ez
      obtain ⟨m1, a1, a2⟩ := s_nearWorth hk c.tw.tw hE (c.tc.cx c.gw) c.sc.hu c.qw.hu c.sc.hs hb c.sc.dy (d := 4) (t := t) (l := l) ht hl
      refine ⟨some (.long ((sp_nwor T (V0 T) (gE G F) q.2.1 day q.2.2.2 l t).getD lmin)), m1, ?_, a2.q, fun c1 r1 => ?_⟩
      · rw [start, hx, br_eqF (by omega) (by omega) (by omega), br_eqF (by omega) (by omega) (by omega), i2, ez, bI_s, br_zb, if_pos rfl, hy, hz, a1, bL_s]
      · rw [refIn m1 c1, if_pos ⟨e1, e2, e3⟩]
        have f1 := fqR_th m1 (zn 0)
        have c3 := c1.qR f1
        obtain ⟨tl, h1, h2, h3⟩ := gR_lw c.gw c3.tr.lw
        rw [e_M_law_39 7 29998, hx, hy, hz]
        simp (disch := omega) only [↓br_eqT, ↓br_eqF]
        have h11 : (am_w m1.1 107 2 (zn 0)) 122 1 = zb (tl 1) := h1 1 (by omega)
        rw [h11]
        cases e : tl 1 with
        | false =>
          refine ⟨(am_w m1.1 107 2 (zn 0), m1.2), ?_, f1⟩
          unfold sp_nwor; rw [h2 1 (by omega) e]; rfl
        | true =>
          rw [zb_t, br_eqF (by omega) (by omega) (by omega)]
          obtain ⟨m2, b1, b2, b3⟩ := s_plainT c3.tr c.tw c3.nr.os (d := 6)
          have c4 := c3.qR b3.q
          have rn0 := c4.nr.rn0 b2 ho hL
          have rx0 := c4.tr.rx b2 c.tw c.gw
          have u1 := c.tw.pl t ht; have u2 := c.qw.hu l hl
          have ap : am_c 7 y_M_apart [.int (zn (T 1 t)), .int (zn (q.2.1 l))] m2 = _ := s_apart (d := 6) (by omega) (by omega)
          obtain ⟨m3, g1, g2, g3, g4⟩ := s_layNames (b := 0) c.tw.tw rx0 (by omega) rn0.hs hb rn0.dy (d := 5) (z := T 2 t) (far := sp_ap (T 1 t) (q.2.1 l)) (l := l) ht
          obtain ⟨m4, p1, p2⟩ := law_127 (T := T) (V := V0 T) (nx := 29997) (x1 := zn 2) (x2 := zn t) (x3 := zn l) hE (by omega : 1 < 3) e h3 (m' := m3) (fun p _ _ => by rw [g2, b3.2.1 p (by omega) (by omega) (by omega)]) g4
          refine ⟨m4, ?_, fqR_tr f1 (fqR_tr b3.q (fqR_tr (frl.q ⟨fun p _ => by rw [g2], fun i _ => by rw [g2], fun p p1 _ => g3 p p1⟩) p2.q))⟩
          rw [b1, bV_s, br_oiF (by omega) (by omega), br_oiF (by omega) (by omega), br_oiF (by omega) (by omega), zn_cl (by omega), zn_cl (by omega), c4.tr.pl t ht, c4.tr.sz t ht, c4.nr.hu l hl, ap, bI_s, g1, bV_s, p1]; rfl
  · refine ⟨some (.long lmin), m, ?_, fqC_refl m, fun c1 r1 => ⟨_, by rw [refIn m c1, if_neg ok], fqR_th m (zn 0)⟩⟩
    rw [n_C_law, i1, bI_s, br_zb, isR_le (by omega) (by omega)]
    by_cases e2 : isN (T 0 0) y = true
    · rw [if_pos e2]
      by_cases e1 : isR (0 : Nat) (2 : Nat) x = true
      · rw [if_pos e1]
        have hx2 : x = zn 2 := by
          rcases Classical.em (x = zn 2) with h | h
          · exact h
          · exact absurd ⟨e1, e2, fun q => absurd q h⟩ ok
        have ez : ¬ isN (T 0 1) z = true := fun h => ok ⟨e1, e2, fun _ => h⟩
        rw [hx2, br_eqF (by omega) (by omega) (by omega), br_eqF (by omega) (by omega) (by omega), i2, bI_s, br_zb, if_neg ez]
      · rw [if_neg e1]
    · rw [if_neg e2]
