/-! gives -/
def gvs (g : List Nat → Bool) : List (List Nat) → Option (List Nat)
  | [] => none
  | p :: t => if g p = true then some p else gvs g t
def zg : Option (List Nat) → Int32
  | none => zn 0
  | some _ => zn 1
def odh (T G F : Td) (q : Sq) (w : List Nat) (day x s : Nat) (p : List Nat) : Bool := decide ((od T G F q w day p).1 x = some s)
theorem lp_gives {T G F : Td} {q : Sq} {w : List Nat} {day d x s : Nat} (W : tW T) (Q : qW T w q) (hd : day ≤ 999) (hx0 : x < T 0 0) (hs0 : s < T 0 0) (t : List (List Nat)) :
    ∀ (p : List Nat) (i f : Nat) (m : am_M), chB (T 0 1) (p :: t) = true → (∀ x, x ∈ p :: t → x.length = T 0 1 ∧ ∀ l, l ∈ x → l < T 0 1) → i + t.length + 1 ≤ 120 → t.length + 1 < f → ory T G F q w day m → (∀ k, k < T 0 1 → m.1 66 k = zn (p.getD k 0)) →
    ∃ m', r_Finder_findGivingOrder_11 71 (d + 5) f (zn x) (zn s) (zn 1) (zn i) m = some (some (.int (zg (gvs (odh T G F q w day x s) (p :: t)))), m') ∧ fto m m' ∧ ∀ y, gvs (odh T G F q w day x s) (p :: t) = some y → ∀ k, k < T 0 1 → m'.1 67 k = zn (y.getD k 0) := by
  have hk : sc_k 71 := Or.inr (Or.inr (Or.inl rfl))
  have hk9 : sc_k 59 := Or.inr (Or.inl rfl)
  have hL := W.L; have hn5 := W.n
  induction t with
  | nil =>
    intro p i f m hc hx h1 h2 o h6
    obtain ⟨f, rfl⟩ : ∃ g, f = g + 2 := ⟨f - 2, by simp at h2; omega⟩
    have h1' : i + 1 ≤ 120 := by simpa using h1
    have hxp := hx p (by simp)
    obtain ⟨m1, a1, a2, a3, a4⟩ := s_tryOrder (d := d) W Q hd o hxp.1 hxp.2 h6
    have I' : hwI (T 0 0) (od T G F q w day p).1 (od T G F q w day p).2 := pass_hw (fun x hx => by have := Q.ms x hx; omega) Q.hw
    have hN : nxF (T 0 1) (fun i => p.getD i 0) = none := by
      unfold chB at hc
      cases e : nxF (T 0 1) (fun i => p.getD i 0) with
      | none => rfl
      | some f => rw [e] at hc; simp at hc
    have hb10 : ∀ k, (fun i => p.getD i 0) k < 10 := fun k => by
      show p.getD k 0 < 10
      by_cases g : k < p.length
      · have := hxp.2 _ (getD_mem p k 0 g); omega
      · rw [List.getD_eq_getElem?_getD, List.getElem?_eq_none (by omega)]; show 0 < 10; omega
    have f1 : fto m m1 := ⟨a3, fun c hc => a4 c (by omega)⟩
    have h26 : ∀ k, k < T 0 1 → m1.1 66 k = zn (p.getD k 0) := by rw [a4 66 (by omega)]; exact h6
    have hsx : m1.1 60 x = zo ((od T G F q w day p).1 x) := a2.hs x hx0
    have hlt : ∀ a, (od T G F q w day p).1 x = some a → a < 2147483648 := fun a e => by have := hw_h I' hx0 e; omega
    rw [e_Finder_findGivingOrder_11 hk, br_leF (by omega) (by omega), br_eqF (by omega) (by omega) (by omega), a1, bV_s, br_oiF (by omega) (by omega), zn_cl (by omega), hsx, br_zoN hlt (by omega), gvs]
    by_cases g : (od T G F q w day p).1 x = some s
    · rw [if_pos g, if_pos (show odh T G F q w day x s p = true from decide_eq_true g)]
      refine ⟨_, rfl, fto_tr f1 ⟨rfl, fun c hc => by simp (disch := omega) only [w_ne, w_at, wl_ne, wl_at, wc_ne, wc_at, upd_at, upd_ne, upl_at, upl_ne, cpy_in0, zn_cl, zn_add, zn_mul, zn_sub, zn_pm, br_tt, br_ff, br_ltT, br_ltF, br_leT, br_leF, br_eqT, br_eqF, br_eqs, br_eqm, br_eqm', br_ltm, br_mlt, br_lem, br_mle, br_oiF, br_lgge, br_lgle, br_lggt, br_lglt, br_lgeq, br_zb, br_zb1, bV_s, bI_s, bL_s, zo_n, zo_s]⟩, fun y e k hk => ?_⟩
      cases e
      simp (disch := omega) only [w_ne, w_at, wl_ne, wl_at, wc_ne, wc_at, upd_at, upd_ne, upl_at, upl_ne, cpy_in0, zn_cl, zn_add, zn_mul, zn_sub, zn_pm, br_tt, br_ff, br_ltT, br_ltF, br_leT, br_leF, br_eqT, br_eqF, br_eqs, br_eqm, br_eqm', br_ltm, br_mlt, br_lem, br_mle, br_oiF, br_lgge, br_lgle, br_lggt, br_lglt, br_lgeq, br_zb, br_zb1, bV_s, bI_s, bL_s, zo_n, zo_s]; exact h26 k hk
    · rw [if_neg g, if_neg (show ¬ odh T G F q w day x s p = true from fun h => g (of_decide_eq_true h))]
      obtain ⟨m3, e1, e2, e3, e4⟩ := s_next (d := d + 3) hL (by rw [a4 27 (by omega)]; exact o.c.L) h26 hb10
      rw [hN] at e1
      refine ⟨m3, ?_, fto_tr f1 ⟨e2, fun c hc => e3 c (by omega)⟩, fun y e => by cases e⟩
      have e1' : am_c (d + 5) y_Finder_goToNextOrder [.ref 25] m1 = some (some (.int (zn 0)), m3) := e1
      rw [e1', bI_s, zn_add, e_Finder_findGivingOrder_11 hk]
      by_cases g2 : 120 ≤ i + 1
      · rw [br_leT g2 (by omega)]; rfl
      · rw [br_leF (by omega) (by omega), br_eqT rfl]; rfl
  | cons p2 t ih =>
    intro p i f m hc hx h1 h2 o h6
    obtain ⟨f, rfl⟩ : ∃ g, f = g + 1 := ⟨f - 1, by omega⟩
    have hxp := hx p (by simp)
    obtain ⟨m1, a1, a2, a3, a4⟩ := s_tryOrder (d := d) W Q hd o hxp.1 hxp.2 h6
    have I' : hwI (T 0 0) (od T G F q w day p).1 (od T G F q w day p).2 := pass_hw (fun x hx => by have := Q.ms x hx; omega) Q.hw
    rw [List.length_cons] at h1 h2
    obtain ⟨pf, hN, hc2⟩ : ∃ pf, nxF (T 0 1) (fun i => p.getD i 0) = some pf ∧ p2 = (List.range (T 0 1)).map pf ∧ chB (T 0 1) (p2 :: t) = true := by
      rw [chB, Bool.and_eq_true] at hc
      cases e : nxF (T 0 1) (fun i => p.getD i 0) with
      | none => rw [e] at hc; simp at hc
      | some f => rw [e] at hc; exact ⟨f, rfl, of_decide_eq_true hc.1, hc.2⟩
    have hb10 : ∀ k, (fun i => p.getD i 0) k < 10 := fun k => by
      show p.getD k 0 < 10
      by_cases g : k < p.length
      · have := hxp.2 _ (getD_mem p k 0 g); omega
      · rw [List.getD_eq_getElem?_getD, List.getElem?_eq_none (by omega)]; show 0 < 10; omega
    have f1 : fto m m1 := ⟨a3, fun c hc => a4 c (by omega)⟩
    have h26 : ∀ k, k < T 0 1 → m1.1 66 k = zn (p.getD k 0) := by rw [a4 66 (by omega)]; exact h6
    have hsx : m1.1 60 x = zo ((od T G F q w day p).1 x) := a2.hs x hx0
    have hlt : ∀ a, (od T G F q w day p).1 x = some a → a < 2147483648 := fun a e => by have := hw_h I' hx0 e; omega
    rw [e_Finder_findGivingOrder_11 hk, br_leF (by omega) (by omega), br_eqF (by omega) (by omega) (by omega), a1, bV_s, br_oiF (by omega) (by omega), zn_cl (by omega), hsx, br_zoN hlt (by omega), gvs]
    by_cases g : (od T G F q w day p).1 x = some s
    · rw [if_pos g, if_pos (show odh T G F q w day x s p = true from decide_eq_true g)]
      refine ⟨_, rfl, fto_tr f1 ⟨rfl, fun c hc => by simp (disch := omega) only [w_ne, w_at, wl_ne, wl_at, wc_ne, wc_at, upd_at, upd_ne, upl_at, upl_ne, cpy_in0, zn_cl, zn_add, zn_mul, zn_sub, zn_pm, br_tt, br_ff, br_ltT, br_ltF, br_leT, br_leF, br_eqT, br_eqF, br_eqs, br_eqm, br_eqm', br_ltm, br_mlt, br_lem, br_mle, br_oiF, br_lgge, br_lgle, br_lggt, br_lglt, br_lgeq, br_zb, br_zb1, bV_s, bI_s, bL_s, zo_n, zo_s]⟩, fun y e k hk => ?_⟩
      cases e
      simp (disch := omega) only [w_ne, w_at, wl_ne, wl_at, wc_ne, wc_at, upd_at, upd_ne, upl_at, upl_ne, cpy_in0, zn_cl, zn_add, zn_mul, zn_sub, zn_pm, br_tt, br_ff, br_ltT, br_ltF, br_leT, br_leF, br_eqT, br_eqF, br_eqs, br_eqm, br_eqm', br_ltm, br_mlt, br_lem, br_mle, br_oiF, br_lgge, br_lgle, br_lggt, br_lglt, br_lgeq, br_zb, br_zb1, bV_s, bI_s, bL_s, zo_n, zo_s]; exact h26 k hk
    · rw [if_neg g, if_neg (show ¬ odh T G F q w day x s p = true from fun h => g (of_decide_eq_true h))]
      obtain ⟨m3, e1, e2, e3, e4⟩ := s_next (d := d + 3) hL (by rw [a4 27 (by omega)]; exact o.c.L) h26 hb10
      rw [hN] at e1
      have f3 : fto m m3 := fto_tr f1 ⟨e2, fun c hc => e3 c (by omega)⟩
      obtain ⟨m', i1, i2, i3⟩ := ih p2 (i + 1) f m3 hc2.2 (fun x hm => hx x (List.mem_cons_of_mem _ hm)) (by omega) (by omega) (o.to f3) (fun k hk => by rw [e4 pf hN k hk, hc2.1]; simp [List.getD_eq_getElem?_getD, hk])
      refine ⟨m', ?_, fto_tr f3 i2, i3⟩
      have e1' : am_c (d + 5) y_Finder_goToNextOrder [.ref 25] m1 = some (some (.int (zn 1)), m3) := e1
      rw [e1', bI_s, zn_add]
      exact i1
theorem lq_gives {T G F : Td} {q : Sq} {w : List Nat} {day num d x z : Nat} (W : tW T) (gw : gW G F) (hE : evW (gE G F)) (Q : qW T w q) (hd : day ≤ 999) (hx0 : x < T 0 0) (hs0 : z < T 0 0) (r : Nat) :
    ∀ (c f : Nat) (x4 x5 : Option Value) (m : am_M), c + r = 5 ^ T 0 1 → 7 * r < f → tR T G F m → nR T q.1 q.2.1 q.2.2.1 q.2.2.2 w day num m →
    ∃ m', r_M_layOrder_7 (d + 6) f (zn x) (zn z) (zn c) x4 x5 m = some (some (.int (zg (gvs (odh T G F q w day x z) (ordF (T 0 1) r c)))), m') ∧ fqR m m' ∧ ∀ y, gvs (odh T G F q w day x z) (ordF (T 0 1) r c) = some y → ∀ k, k < T 0 1 → m'.1 142 k = zn (y.getD k 0) := by
  have hw5 := hw_len Q.hw; have hn5 := W.n; have hL := W.L
  have hp := pow5_le (T 0 1) (by omega)
  induction r with
  | zero =>
    intro c f x4 x5 m h1 h2 tr s
    obtain ⟨f, rfl⟩ : ∃ g, f = g + 1 := ⟨f - 1, by omega⟩
    refine ⟨m, ?_, fqR_refl m, fun y e => by cases e⟩
    rw [e_M_layOrder_7, tr.L, s_pow (by omega), bI_s, br_leT (by omega) (by omega), br_leT (by omega) (by omega)]; rfl
  | succ r ih =>
    intro c f x4 x5 m h1 h2 tr s
    obtain ⟨f, rfl⟩ : ∃ g, f = g + 1 := ⟨f - 1, by omega⟩
    obtain ⟨m1, m2, a1, a2, a3, a4, a5, a6⟩ := s_oneR (d := d) (c := c) W gw hE Q hd tr s (by omega)
    rw [e_M_layOrder_7, tr.L, s_pow (by omega), bI_s, br_leF (by omega) (by omega), a1, bV_s, a2, bI_s, br_zb, ordF, zn_add]
    cases e : isOr (T 0 1) (dgt (T 0 1) c) (T 0 1) 0 with
    | false =>
      obtain ⟨m', d1, d2, d3⟩ := ih (c + 1) f x4 x5 m2 (by omega) (by omega) (tr.q a3) (s.q (by omega) W a3)
      rw [if_neg (by simp), if_neg (by simp), zn_add]
      exact ⟨m', d1, fqR_tr a3 d2, d3⟩
    | true =>
      obtain ⟨m3, b1, b2, b3, b4, b5, b6⟩ := a6 e
      have I' : hwI (T 0 0) (od T G F q w day (dig (T 0 1) c)).1 (od T G F q w day (dig (T 0 1) c)).2 := pass_hw (fun x hx => by have := Q.ms x hx; omega) Q.hw
      have tr3 := tr.q b2
      have s3 := s.q (by omega) W b2
      have o1 := s_ownIn (b := 1) (d := d + 5) (by omega) hn5 tr3.n b5 I'
      have hlt : ∀ a, (od T G F q w day (dig (T 0 1) c)).1 x = some a → a < 2147483648 := fun a e => by have := hw_h I' hx0 e; omega
      rw [if_pos rfl, if_pos rfl, b1, bV_s, br_leT (by omega) (by omega), zn_add, br_oiF (by omega) (by omega), zn_cl (by omega), b5 x hx0, br_zoN hlt (by omega), gvs]
      by_cases g : (od T G F q w day (dig (T 0 1) c)).1 x = some z
      · rw [if_pos g, if_pos (show odh T G F q w day x z (dig (T 0 1) c) = true from decide_eq_true g), o1, bI_s]
        obtain ⟨f4, m4, g1, g0, g2, g3, g4, g5⟩ := lq_103 (d := d + 6) (x1 := zn x) (x2 := zn z) (x3 := zn c) (x4 := zn 1) 5 0 f (am_w m3.1 107 70 (zn (sp_own (T 0 0) (od T G F q w day (dig (T 0 1) c)).1)), m3.2) (by omega) (by omega)
        have fw := fqR_70 (m := m3) (x := zn (sp_own (T 0 0) (od T G F q w day (dig (T 0 1) c)).1))
        have f34 : fqR m3 m4 := fqR_tr fw ⟨fun p hp => g3 p (by omega), fun i _ => by rw [g3 132 (by omega), g3 133 (by omega), g3 137 (by omega)]; exact ⟨rfl, rfl, rfl⟩, by rw [g3 134 (by omega)], by rw [g3 135 (by omega)], fun i _ => by rw [g3 107 (by omega)], fun p _ => by rw [g2], by rw [g2], by rw [g2]⟩
        refine ⟨m4, ?_, fqR_tr b2 f34, fun y e k hk => ?_⟩
        · rw [g1, e_M_layOrder_103, br_leT (by omega) (by omega), br_ltF (by omega) (by omega)]; rfl
        · cases e
          rw [g4 k (by omega) (by omega)]; simp (disch := omega) only [w_ne, w_at, wl_ne, wl_at, wc_ne, wc_at, upd_at, upd_ne, upl_at, upl_ne, cpy_in0, zn_cl, zn_add, zn_mul, zn_sub, zn_pm, br_tt, br_ff, br_ltT, br_ltF, br_leT, br_leF, br_eqT, br_eqF, br_eqs, br_eqm, br_eqm', br_ltm, br_mlt, br_lem, br_mle, br_oiF, br_lgge, br_lgle, br_lggt, br_lglt, br_lgeq, br_zb, br_zb1, bV_s, bI_s, bL_s, zo_n, zo_s]; exact b6 k hk
      · rw [if_neg g, if_neg (show ¬ odh T G F q w day x z (dig (T 0 1) c) = true from fun h => g (of_decide_eq_true h))]
        obtain ⟨m', d1, d2, d3⟩ := ih (c + 1) f (some (.int (zn 0))) x5 m3 (by omega) (by omega) tr3 s3
        exact ⟨m', d1, fqR_tr b2 d2, d3⟩
theorem k_gives (x y z : Int32) : ask y_C_gives y_M_gives [.int x, .int y, .int z] := by
  refine ask_of fun T G F q w day num m c r => ?_
  have hE := gE_evW c.gw c.gf
  have hL := c.tw.L; have hn5 := c.tw.n
  have ix := s_isThingC c.tc c.tw (d := 6) (x := x)
  have iy := s_isThingC c.tc c.tw (d := 6) (x := y)
  have c0 := c.qR (fqR_th m (zn 0))
  have jx := s_isThingR c0.tr c.tw (d := 6) (x := x)
  have jy := s_isThingR c0.tr c.tw (d := 6) (x := y)
  by_cases ok : isN (T 0 0) x = true ∧ isN (T 0 0) y = true ∧ isR (0 : Nat) (4 : Nat) z = true
  · obtain ⟨e1, e2, e3⟩ := ok
    obtain ⟨t0, ht0, rfl⟩ := isN_t e1
    obtain ⟨s, hs, rfl⟩ := isN_t e2
    obtain ⟨k, _, k2, rfl⟩ := isR_t e3
    obtain ⟨ok1, ok2, ok3, ok4⟩ := ords_ok (T 0 1) (by omega)
    obtain ⟨t, ht⟩ : ∃ t, ords (T 0 1) = List.range (T 0 1) :: t := by
      cases h : ords (T 0 1) with
      | nil => rw [h] at ok2; cases ok2
      | cons p t => rw [h] at ok2; cases ok2; exact ⟨t, rfl⟩
    have hx : ∀ x, x ∈ ords (T 0 1) → x.length = T 0 1 ∧ ∀ l, l ∈ x → l < T 0 1 := by
      intro x hx
      have := List.all_eq_true.mp ok4 x hx
      rw [Bool.and_eq_true, decide_eq_true_eq] at this
      exact ⟨this.1, fun l hl => of_decide_eq_true (List.all_eq_true.mp this.2 l hl)⟩
    rw [ht] at ok1 ok3 hx
    rw [List.length_cons] at ok3
    obtain ⟨m1, a1, a2, a3, a4, a5⟩ := s_prepare c (d := 1)
    have c1 := c.qC a5
    obtain ⟨m2, b1, b2, b3⟩ := lp_gives (d := 1) (x := t0) (s := s) c.tw c.qw c.db ht0 hs t (List.range (T 0 1)) 0 29999 m1 ok1 hx (by omega) (by omega) ⟨c1.tc.cx c.gw, a2, a3⟩ (fun k hk => by rw [a4 k (by omega), range_getD hk])
    have fq2 := fqC_tr a5 b2.q
    have c2 := c.qC fq2
    have b1' : am_c 7 y_Finder_findGivingOrder [.ref 25, .ref 71, .int (zn t0), .int (zn s)] m = some (some (.int (zg (gvs (odh T G F q w day t0 s) (List.range (T 0 1) :: t)))), m2) := by
      rw [n_Finder_findGivingOrder (Or.inr (Or.inr (Or.inl rfl))), a1, bV_s]; exact b1
    refine ⟨some (.int (match gvs (odh T G F q w day t0 s) (List.range (T 0 1) :: t) with | none => zq | some p => if k < T 0 1 then zn (p.getD k 0) else zq)), m2, ?_, fq2, fun c3 r3 => ?_⟩
    · rw [n_C_gives, ix, e1, bI_s, br_zb, if_pos rfl, iy, e2, bI_s, br_zb, if_pos rfl, br_ltF (by omega) (by omega), br_ltT (by omega) (by omega), b1', bI_s]
      cases g : gvs (odh T G F q w day t0 s) (List.range (T 0 1) :: t) with
      | none => rw [zg, br_eqT rfl]
      | some p =>
        have hb3 := b3 p g
        rw [zg, br_eqF (by omega) (by omega) (by omega), n_Finder_lampFound, br_ltF (by omega) (by omega), c2.tc.L]
        show _ = some (some (Value.int (if k < T 0 1 then zn (p.getD k 0) else zq)), m2)
        by_cases g2 : k < T 0 1
        · rw [br_leF g2 (by omega), br_oiF (by omega) (by omega), bI_s, zn_cl (by omega), hb3 k g2, if_pos g2]
        · rw [br_leT (by omega) (by omega), if_neg g2, bI_s]
    · have c4 := c3.qR (fqR_th m2 (zn 0))
      have f70 := fqR_70 (m := (am_w m2.1 107 2 (zn 0), m2.2)) (x := zm)
      have c5 := c4.qR f70
      have hp := pow5_le (T 0 1) (by omega)
      obtain ⟨m5, d1, d2, d3⟩ := lq_gives (d := 0) (x := t0) (z := s) c.tw c.gw hE c.qw c.db ht0 hs (5 ^ T 0 1) 0 29999 none none _ (by omega) (by omega) c5.tr c5.nr
      have hh : ordF (T 0 1) (5 ^ T 0 1) 0 = List.range (T 0 1) :: t := ht
      rw [hh] at d1 d3
      have c6 := c5.qR d2
      refine ⟨m5, ?_, fqR_tr (fqR_th m2 (zn 0)) (fqR_tr f70 d2)⟩
      rw [n_M_gives, s_isThingR c4.tr c.tw, e1, bI_s, br_zb, if_pos rfl, s_isThingR c4.tr c.tw, e2, bI_s, br_zb, if_pos rfl, s_isInN (by omega) (by omega), e3, bI_s, br_zb, if_pos rfl, n_M_layOrder, d1, bI_s, c6.tr.L]
      cases g : gvs (odh T G F q w day t0 s) (List.range (T 0 1) :: t) with
      | none => rw [zg, br_eqT rfl]
      | some p =>
        have hb3 := d3 p g
        rw [zg, br_eqF (by omega) (by omega) (by omega)]
        show _ = some (some (Value.int (if k < T 0 1 then zn (p.getD k 0) else zq)), m5)
        by_cases g2 : k < T 0 1
        · rw [br_leF g2 (by omega), br_oiF (by omega) (by omega), zn_cl (by omega), hb3 k g2, if_pos g2]
        · rw [br_leT (by omega) (by omega), if_neg g2]
  · have e4 : ∀ {t f : am_R}, am_b (am_lt z (zn 0)) f (am_b (am_lt z (zn 5)) t f) = if isR (0 : Nat) (4 : Nat) z = true then t else f := by
      intro t f
      rw [br_lt, br_lt, zn_i (by omega), zn_i (by omega)]
      unfold isR
      by_cases h1 : z.toInt < (0 : Nat)
      · rw [if_pos h1, if_neg (by rw [decide_eq_true_eq]; omega)]
      · rw [if_neg h1]
        by_cases h2 : z.toInt < (5 : Nat)
        · rw [if_pos h2, if_pos (by rw [decide_eq_true_eq]; omega)]
        · rw [if_neg h2, if_neg (by rw [decide_eq_true_eq]; omega)]
    refine ⟨some (.int zm), m, ?_, fqC_refl m, fun c1 r1 => ⟨_, ?_, fqR_th m (zn 0)⟩⟩
    · rw [n_C_gives, ix, bI_s, br_zb, iy, bI_s, br_zb, e4]
      by_cases e1 : isN (T 0 0) x = true
      · rw [if_pos e1]
        by_cases e2 : isN (T 0 0) y = true
        · rw [if_pos e2, if_neg (fun e3 => ok ⟨e1, e2, e3⟩)]
        · rw [if_neg e2]
      · rw [if_neg e1]
    · rw [n_M_gives, jx, bI_s, br_zb, jy, bI_s, br_zb, s_isInN (by omega) (by omega), bI_s, br_zb]
      by_cases e1 : isN (T 0 0) x = true
      · rw [if_pos e1]
        by_cases e2 : isN (T 0 0) y = true
        · rw [if_pos e2, if_neg (fun e3 => ok ⟨e1, e2, e3⟩)]
        · rw [if_neg e2]
      · rw [if_neg e1]
