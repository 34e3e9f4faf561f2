/-! two lamps change turns -/
theorem deedB {T G F : Td} {q q' : Sq} {w : List Nat} {day num n k a b p : Nat} {D : Td} {H : Nat → Sq} {m m1 m1' : am_M} (c : Core T G F q w day num m) (r : Rest T q w m) (h : dedX T w q n D H m) (qw : qW T w q') (hu : unD k a b p q' = q) (hf : wfD T k a b p q')
    (a2 : m1.2 = m.2) (a3 : ∀ c, c < 102 ∨ 106 < c → m1.1 c = m.1 c) (a4 : m1.1 102 4 = zn (min n 19 + 1)) (a5 : ∀ j, j < min n 19 → m1.1 103 j = m.1 103 (j + (n - 19)) ∧ m1.1 104 j = m.1 104 (j + (n - 19)) ∧ m1.1 105 j = m.1 105 (j + (n - 19)) ∧ m1.1 106 j = m.1 106 (j + (n - 19)))
    (ck : m1.1 103 (min n 19) = zn k ∧ m1.1 104 (min n 19) = zn a ∧ m1.1 105 (min n 19) = zn b ∧ m1.1 106 (min n 19) = zn p)
    (u2 : m1'.2 = m1.2) (u3 : ∀ c, c < 71 ∨ 77 < c → m1'.1 c = m1.1 c) (sc : sn 71 T q'.1 q'.2.1 q'.2.2.1 q'.2.2.2 w day m1') (nc : m1'.1 71 11 = m1.1 71 11) :
    tR T G F (am_w m1'.1 107 2 (zn 0), m1'.2) ∧ nR T q.1 q.2.1 q.2.2.1 q.2.2.2 w day num (am_w m1'.1 107 2 (zn 0), m1'.2) ∧ ∃ m2, am_c 7 y_M_remember [.ref 107] (am_w m1'.1 107 2 (zn 0), m1'.2) = some (none, m2) ∧ tR T G F m2 ∧ nR T q.1 q.2.1 q.2.2.1 q.2.2.2 w day num m2 ∧ ∀ m3 : am_M, m3.2 = m2.2 → (∀ c, c < 132 ∨ 139 < c → c ≠ 107 → m3.1 c = m2.1 c) → (∀ i, i ≠ 55 → m3.1 107 i = m2.1 107 i) → nR T q'.1 q'.2.1 q'.2.2.1 q'.2.2.2 w day num m3 → Inv m3 := by
  have f : ∀ p', (p' < 71 ∨ 77 < p' ∧ p' < 102 ∨ 106 < p' ∧ p' ≠ 107) → (am_w m1'.1 107 2 (zn 0), m1'.2).1 p' = m.1 p' := fun p' h => by simp (disch := omega) only [w_ne, w_at, wl_ne, wl_at, wc_ne, wc_at, upd_at, upd_ne, upl_at, upl_ne, cpy_in0, zn_cl, zn_add, zn_mul, zn_sub, zn_pm, br_tt, br_ff, br_ltT, br_ltF, br_leT, br_leF, br_eqT, br_eqF, br_eqs, br_eqm, br_eqm', br_ltm, br_mlt, br_lem, br_mle, br_oiF, br_lgge, br_lgle, br_lggt, br_lglt, br_lgeq, br_zb, br_zb1, bV_s, bI_s, bL_s, zo_n, zo_s]; rw [u3 p' (by omega)]; exact a3 p' (by omega)
  have f7 : ∀ i, i ≠ 2 → (am_w m1'.1 107 2 (zn 0), m1'.2).1 107 i = m.1 107 i := fun i hi => by simp (disch := omega) only [w_ne, w_at, wl_ne, wl_at, wc_ne, wc_at, upd_at, upd_ne, upl_at, upl_ne, cpy_in0, zn_cl, zn_add, zn_mul, zn_sub, zn_pm, br_tt, br_ff, br_ltT, br_ltF, br_leT, br_leF, br_eqT, br_eqF, br_eqs, br_eqm, br_eqm', br_ltm, br_mlt, br_lem, br_mle, br_oiF, br_lgge, br_lgle, br_lggt, br_lglt, br_lgeq, br_zb, br_zb1, bV_s, bI_s, bL_s, zo_n, zo_s]; rw [u3 107 (by omega), a3 107 (by omega)]
  have t1 : tR T G F (am_w m1'.1 107 2 (zn 0), m1'.2) := c.tr.mono (fun p' _ _ => f p' (by omega)) (fun i _ _ => f7 i (by omega))
  have n1 : nR T q.1 q.2.1 q.2.2.1 q.2.2.2 w day num (am_w m1'.1 107 2 (zn 0), m1'.2) := c.nr.r107 (fun p' _ _ => f p' (by omega)) (f7 55 (by omega)) (by show m1'.2 107 58 = _; rw [u2, a2])
  obtain ⟨m2, b1, b2, b3, b4, b5, b6, b7⟩ := s_remember (d := 5) c.tw c.qw.ml n1 h.n ((f7 85 (by omega)).trans h.rn)
  refine ⟨t1, n1, m2, b1, t1.mono (fun p' _ _ => b3 p' (by omega) (by omega)) (fun i _ _ => b4 i (by omega)), n1.r107 (fun p' _ _ => b3 p' (by omega) (by omega)) (b4 55 (by omega)) (by rw [b2]), fun m3 g2 g3 g4 g5 => ?_⟩
  have e : ∀ p', p' < 102 ∨ 102 ≤ p' ∧ p' ≤ 106 → m3.1 p' = m1'.1 p' := fun p' hp => by rw [g3 p' (by omega) (by omega), b3 p' (by omega) (by omega)]; simp (disch := omega) only [w_ne, w_at, wl_ne, wl_at, wc_ne, wc_at, upd_at, upd_ne, upl_at, upl_ne, cpy_in0, zn_cl, zn_add, zn_mul, zn_sub, zn_pm, br_tt, br_ff, br_ltT, br_ltF, br_leT, br_leF, br_eqT, br_eqF, br_eqs, br_eqm, br_eqm', br_ltm, br_mlt, br_lem, br_mle, br_oiF, br_lgge, br_lgle, br_lggt, br_lglt, br_lgeq, br_zb, br_zb1, bV_s, bI_s, bL_s, zo_n, zo_s]
  have e' : ∀ p', 102 ≤ p' → p' ≤ 106 → m3.1 p' = m1.1 p' := fun p' p1 p2 => by rw [e p' (by omega), u3 p' (by omega)]
  refine deed_inv (q' := q') (k := k) (a := a) (b := b) (p := p) c r h qw hu hf ?_ ?_ ?_ ?_ ?_ g5 ?_ ?_ ?_ ?_ ?_ ?_
  · intro p' hp; rw [g3 p' (by omega) (by omega), b3 p' (by omega) (by omega)]; exact f p' (by omega)
  · intro i i1 i2 i3; rw [g4 i i2, b4 i i3]; exact f7 i i1
  · rw [g2, b2]; show m1'.2 = _; rw [u2, a2]
  · exact sc.mono (fun p' _ _ => e p' (by omega))
  · rw [e 71 (by omega), nc, a3 71 (by omega)]
  · rw [e' 102 (by omega) (by omega)]; exact a4
  · rw [e' 103 (by omega) (by omega), e' 104 (by omega) (by omega), e' 105 (by omega) (by omega), e' 106 (by omega) (by omega)]; exact a5
  · rw [e' 103 (by omega) (by omega), e' 104 (by omega) (by omega), e' 105 (by omega) (by omega), e' 106 (by omega) (by omega)]; exact ck
  · rw [g4 85 (by omega)]; exact b5
  · exact b6.mono (g3 153 (by omega) (by omega))
  · intro j hj; rw [g3 153 (by omega) (by omega), b7 j hj, f 153 (by omega)]
theorem nd_inj {l : List Nat} (h : l.Nodup) {i j : Nat} (hi : i < l.length) (hj : j < l.length) (e : l.getD i 0 = l.getD j 0) : i = j := by
  rw [List.getD_eq_getElem?_getD, List.getD_eq_getElem?_getD, List.getElem?_eq_getElem hi, List.getElem?_eq_getElem hj] at e
  have p := List.pairwise_iff_getElem.mp h
  rcases Nat.lt_trichotomy i j with q | q | q
  · exact absurd e (p i j hi hj q)
  · exact q
  · exact absurd e.symm (p j i hj hi q)
def sw1 (a b x : Nat) : Nat := if x = a then b else if x = b then a else x
theorem sw1_sw1 (a b x : Nat) : sw1 a b (sw1 a b x) = x := by
  unfold sw1
  by_cases e1 : x = a
  · rw [if_pos e1]
    by_cases e2 : b = a
    · rw [if_pos e2]; omega
    · rw [if_neg e2, if_pos rfl]; exact e1.symm
  · rw [if_neg e1]
    by_cases e2 : x = b
    · rw [if_pos e2, if_pos rfl]; exact e2.symm
    · rw [if_neg e2, if_neg e1, if_neg e2]
theorem tn_tn (l : List Nat) (a b : Nat) : sp_tn (sp_tn l a b) a b = l := by
  show (l.map (sw1 a b)).map (sw1 a b) = l
  rw [List.map_map]
  have : sw1 a b ∘ sw1 a b = id := funext fun x => sw1_sw1 a b x
  rw [this, List.map_id]
theorem tn_nd {l : List Nat} {a b : Nat} (h : l.Nodup) : (sp_tn l a b).Nodup := by
  show (l.map (sw1 a b)).Pairwise _
  rw [List.pairwise_map]
  refine List.Pairwise.imp (fun {x y} hxy e => hxy ?_) h
  have := congrArg (sw1 a b) e
  rwa [sw1_sw1, sw1_sw1] at this
theorem tn_len (l : List Nat) (a b : Nat) : (sp_tn l a b).length = l.length := List.length_map ..
theorem tn_at {l : List Nat} {a b i j t : Nat} (h : l.Nodup) (hi : i < l.length) (hj : j < l.length) (ht : t < l.length) (ei : l.getD i 0 = a) (ej : l.getD j 0 = b) : (sp_tn l a b).getD t 0 = if t = i then b else if t = j then a else l.getD t 0 := by
  have e0 : (sp_tn l a b).getD t 0 = sw1 a b (l.getD t 0) := by
    show (l.map (sw1 a b)).getD t 0 = _
    rw [List.getD_eq_getElem?_getD, List.getD_eq_getElem?_getD, List.getElem?_map, List.getElem?_eq_getElem ht]; rfl
  rw [e0]; unfold sw1
  by_cases e1 : t = i
  · rw [e1, if_pos rfl, if_pos ei]
  · rw [if_neg e1, if_neg (fun e => e1 (nd_inj h ht hi (e.trans ei.symm)))]
    by_cases e2 : t = j
    · rw [e2, if_pos rfl, if_pos ej]
    · rw [if_neg e2, if_neg (fun e => e2 (nd_inj h ht hj (e.trans ej.symm)))]
