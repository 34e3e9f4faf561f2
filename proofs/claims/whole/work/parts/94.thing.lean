/-! a thing's line -/
def hwt (t : Tk) : Nat := if t.1 = 7 then 1 else if t.1 = 8 then 2 else 0
def rcf (r : Nat → Nat) (c : Nat) : Nat := if c = 6 then r 7 else if c = 7 then r 1 else if c = 8 then r 2 else if c = 9 then r 8 else if c = 10 then r 6 else if c = 11 then r 3 else r 4
def rrf (r : Nat → Nat) (c : Nat) : Nat := if c = 112 then r 7 else if c = 113 then r 1 else if c = 114 then r 2 else if c = 115 then r 8 else if c = 116 then r 3 else r 4
theorem isKey_R {d k K V : Nat} {m : am_M} (hk : k < 25) (h : rtk K V (m.1 107 8) (m.1 107 9)) : am_c (d + 1) y_M_isKey [.ref 107, .int (zn k)] m = some (some (.int (zb (decide (K < 25 ∧ kk K = k)))), m) := by
  rw [n_M_isKey]
  rcases rtk_key h with ⟨q1, q2, q3⟩ | ⟨q1, x, q2, q3, q4⟩
  · have hkk : kk K < 25 := by unfold kk; (repeat' split) <;> omega
    rw [q2, q3, br_eqT rfl]
    by_cases e : kk K = k
    · rw [br_eqT e, decide_eq_true ⟨q1, e⟩]; rfl
    · rw [br_eqF e (by omega) (by omega), decide_eq_false (fun h => e h.2)]; rfl
  · rw [q2, br_eqF q4 (by omega) (by omega), decide_eq_false (fun h => by omega)]; rfl
theorem kk_7 {K : Nat} : (kk K = 7 ↔ K = 7) ∧ (kk K = 8 ↔ K = 8) := by unfold kk; (repeat' split) <;> omega
theorem thC_fin {X : Nat → Nat} {n : Nat} {T G F : Td} {fg : Nat → Bool} {cn : Nat} {t : Tk} {m : am_M} {r : Nat → Nat} (h : pC X n T G F fg cn t m) (q : rwC (T 0 0) (rcf r) 12 m) (hN : T 0 0 < 5) : pC X n (Tth T r) G F fg cn t (am_w (am_w m.1 12 ((zn (T 0 0)).toNatClampNeg) (zn (r 4))) 5 0 (zn (T 0 0) + zn 1), m.2) ∧ frC m (am_w (am_w m.1 12 ((zn (T 0 0)).toNatClampNeg) (zn (r 4))) 5 0 (zn (T 0 0) + zn 1), m.2) := by
  rw [zn_cl (by omega), zn_add]
  have q' : rwC (T 0 0) (rcf r) 13 (am_w m.1 12 (T 0 0) (zn (r 4)), m.2) := rwC_w q (fun _ _ _ => rfl)
  refine ⟨(h.row (c := 12) (x := zn (r 4)) (Or.inl ⟨by omega, by omega, rfl⟩)).thing (r := r) (q' 6 (by omega) (by omega)) (q' 7 (by omega) (by omega)) (q' 8 (by omega) (by omega)) (q' 9 (by omega) (by omega)) (q' 10 (by omega) (by omega)) (q' 11 (by omega) (by omega)) (q' 12 (by omega) (by omega)), ?_⟩
  exact frC_tr (frC_w (c := 12) (j := T 0 0) (x := zn (r 4)) (by omega)) (frC_w (by omega))
theorem thR_fin {X : Nat → Nat} {n : Nat} {T G F : Td} {fg : Nat → Bool} {cn : Nat} {t : Tk} {m : am_M} {r : Nat → Nat} (h : pR X n T G F fg cn t m) (q : rwR (T 0 0) (rrf r) 118 m) : pR X n (Tth T r) G F fg cn t (am_w m.1 107 16 (zn (T 0 0) + zn 1), m.2) ∧ frR m (am_w m.1 107 16 (zn (T 0 0) + zn 1), m.2) := by
  rw [zn_add]
  exact ⟨h.thing (r := r) (q 112 (by omega) (by omega)) (q 113 (by omega) (by omega)) (q 114 (by omega) (by omega)) (q 115 (by omega) (by omega)) (q 116 (by omega) (by omega)) (q 117 (by omega) (by omega)), frR_w (by unfold wokR; omega)⟩
theorem thE {X : Nat → Nat} {n p : Nat} {T G F : Td} {fg : Nat → Bool} {cn : Nat} {r : Nat → Nat} (hp : p ≤ n) (W : pW n T G F cn (tok X n p)) (hN : T 0 0 < 5) (hT : tW (Tth T r)) (h4 : r 4 = hwt (tok X n p)) : bk X n T G F fg cn (tok X n p) (rwC (T 0 0) (rcf r) 12) (fun m => rwR (T 0 0) (rrf r) 117 m ∧ m.1 117 (5 + T 0 0) = zn 0) (hcE (T 0 0)) (hrE (T 0 0)) := by
  have a1 := tok_at (X := X) hp
  have a2 := tok_at (X := X) a1.2.1
  have v1 := tok_V (X := X) hp
  by_cases g : (tok X n p).1 = 7 ∨ (tok X n p).1 = 8
  · have e4 : r 4 = (tok X n p).1 - 6 := by rw [h4]; unfold hwt; (repeat' split) <;> omega
    refine Or.inr ⟨Tth T r, G, F, fg, cn, tok X n (tok X n p).2.2.2, ⟨hT, W.gw, W.gf, W.cn, W.kn, a2.2.1, W.n7⟩, a2.2.2.1, (tok_V a1.2.1).1, a2.1, fun m h q => ?_, fun m h q => ?_⟩
    · obtain ⟨m1, b1, b2, b3⟩ := adv_C (d := 0) h W.nx
      have q1 : rwC (T 0 0) (rcf r) 12 m1 := fun c x y => by rw [b3.2.1 c (by omega)]; exact q c x y
      have f := thC_fin b2 q1 hN
      refine ⟨_, ?_, f.1, frC_tr b3.C f.2⟩
      unfold hcE
      rw [n_Reader_takeHow, h.k.k]
      rcases g with g | g
      · rw [br_eqT g, br_eqT g, b1, bV_s, bI_s, br_oiF (by omega) (by omega), b2.nt, show r 4 = 1 by omega]
      · rw [br_eqF (by omega) (by omega) (by omega), br_eqT g, br_eqF (by omega) (by omega) (by omega), b1, bV_s, bI_s, br_oiF (by omega) (by omega), b2.nt, show r 4 = 2 by omega]
    · have k1 := isKey_R (d := 4) (k := 7) (by omega) h.k.k
      have k2 := isKey_R (d := 4) (k := 8) (by omega) h.k.k
      have kq := kk_7 (K := (tok X n p).1)
      obtain ⟨m1, b1, b2, b3⟩ := adv_R (d := 3) (h.row (c := 117) (j := 5 + T 0 0) (x := zn (r 4)) (Or.inl ⟨by omega, by omega, rfl⟩)) W.nx
      have q0 : rwR (T 0 0) (rrf r) 118 (am_w m.1 117 (5 + T 0 0) (zn (r 4)), m.2) := rwR_w q.1 (fun _ _ => rfl)
      have q1 : rwR (T 0 0) (rrf r) 118 m1 := fun c x y => by rw [b3.2.1 c (by omega)]; exact q0 c x y
      have f := thR_fin b2 q1
      refine ⟨_, ?_, f.1, frR_tr (frR_tr (frR_w (by unfold wokR; omega)) b3.R) f.2⟩
      unfold hrE
      rcases rtk_key h.k.k with ⟨_, z2, z3⟩ | ⟨z1, _⟩
      · have z4 : kk (tok X n p).1 = (tok X n p).1 := by rcases g with g | g <;> rw [g] <;> rfl
        have ev : m.1 107 9 - zn 7 + zn 1 = zn (r 4) := by rw [z3, z4, zn_sub (by omega), zn_add, show (tok X n p).1 - 7 + 1 = r 4 by omega]
        rcases g with g | g
        · rw [k1, decide_eq_true ⟨by omega, kq.1.mpr g⟩, bI_s]
          show am_b (am_eq (zn 1) (zn 0)) _ _ = _
          rw [br_eqF (by omega) (by omega) (by omega), zn_add, br_oiF (by omega) (by omega), zn_cl (by omega), ev, b1, bV_s, b2.nt]
        · rw [k1, decide_eq_false (fun e => by have := kq.1.mp e.2; omega), bI_s]
          show am_b (am_eq (zn 0) (zn 0)) _ _ = _
          rw [br_eqT rfl, k2, decide_eq_true ⟨by omega, kq.2.mpr g⟩, bI_s]
          show am_b (am_eq (zn 1) (zn 0)) _ _ = _
          rw [br_eqF (by omega) (by omega) (by omega), zn_add, br_oiF (by omega) (by omega), zn_cl (by omega), ev, b1, bV_s, b2.nt]
      · omega
  · have e4 : r 4 = 0 := by rw [h4]; unfold hwt; rw [if_neg (by omega), if_neg (by omega)]
    refine Or.inr ⟨Tth T r, G, F, fg, cn, tok X n p, ⟨hT, W.gw, W.gf, W.cn, W.kn, a1.2.1, W.n7⟩, by omega, v1.1, a1.1, fun m h q => ?_, fun m h q => ?_⟩
    · have f := thC_fin h q hN
      refine ⟨_, ?_, f.1, f.2⟩
      unfold hcE
      rw [n_Reader_takeHow, h.k.k, br_eqF (by omega) (by omega) (by omega), br_eqF (by omega) (by omega) (by omega), bI_s, br_oiF (by omega) (by omega), h.nt, e4]
    · have k1 := isKey_R (d := 4) (k := 7) (by omega) h.k.k
      have k2 := isKey_R (d := 4) (k := 8) (by omega) h.k.k
      have kq := kk_7 (K := (tok X n p).1)
      have q0 : rwR (T 0 0) (rrf r) 118 m := fun c x y => by
        by_cases e : c = 117
        · rw [e, q.2]; show zn 0 = zn (r 4); rw [e4]
        · exact q.1 c x (by omega)
      have f := thR_fin h q0
      refine ⟨_, ?_, f.1, f.2⟩
      unfold hrE
      rw [k1, decide_eq_false (fun e => by have := kq.1.mp e.2; omega), bI_s]
      show am_b (am_eq (zn 0) (zn 0)) _ _ = _
      rw [br_eqT rfl, k2, decide_eq_false (fun e => by have := kq.2.mp e.2; omega), bI_s]
      show am_b (am_eq (zn 0) (zn 0)) _ _ = _
      rw [br_eqT rfl, h.nt]
theorem thD {X : Nat → Nat} {n p : Nat} {T G F : Td} {fg : Nat → Bool} {cn : Nat} {r : Nat → Nat} (hp : p ≤ n) (W : pW n T G F cn (tok X n p)) (hN : T 0 0 < 5) (h3 : r 3 = (tok X n p).2.1) (h4 : r 4 = hwt (tok X n (tok X n p).2.2.2)) (hT : r 3 ≤ 9 → tW (Tth T r)) : bk X n T G F fg cn (tok X n p) (rwC (T 0 0) (rcf r) 11) (rwR (T 0 0) (rrf r) 116) (hcD (T 0 0)) (hrD (T 0 0)) := by
  have a1 := tok_at (X := X) hp
  have a2 := tok_at (X := X) a1.2.1
  refine bk_num (dc := 0) (dr := 2) (lo := 0) (hi := 9) (fun m13 => am_b (am_oi (zn (T 0 0)) 5) none (hcE (T 0 0) (am_w m13.1 11 ((zn (T 0 0)).toNatClampNeg) (m13.1 1 11), m13.2))) (fun m11 => am_b (am_oi ((zn 5) + (zn (T 0 0))) 10) none (am_b (am_oi ((zn 5) + (zn (T 0 0))) 10) none (hrE (T 0 0) (am_w (am_w m11.1 116 (((zn 5) + (zn (T 0 0))).toNatClampNeg) (m11.1 107 11)) 117 (((zn 5) + (zn (T 0 0))).toNatClampNeg) (zn 0), m11.2)))) (hcE (T 0 0)) (hrE (T 0 0)) hp (by omega) (by omega) (fun m _ _ => rfl) (fun m _ _ => rfl) (fun l1 l2 => ⟨fun m m1 q h e v => ?_, fun m m1 q h e v => ?_, thE (r := r) a1.2.1 ⟨W.tw, W.gw, W.gf, W.cn, W.kn, a2.2.1, W.n7⟩ hN (hT (by omega)) h4⟩)
  · refine ⟨(am_w m1.1 11 (T 0 0) (zn (r 3)), m1.2), ?_, h.row (Or.inl ⟨by omega, by omega, rfl⟩), rwC_w (f := rcf r) q e, frC_w (by omega)⟩
    show am_b _ _ _ = _
    rw [br_oiF (by omega) (by omega), zn_cl (by omega), v, h3]
  · refine ⟨(am_w (am_w m1.1 116 (5 + T 0 0) (zn (r 3))) 117 (5 + T 0 0) (zn 0), m1.2), ?_, (h.row (c := 116) (x := zn (r 3)) (Or.inl ⟨by omega, by omega, rfl⟩)).row (Or.inl ⟨by omega, by omega, rfl⟩), ⟨?_, ?_⟩, ?_⟩
    · show am_b _ _ _ = _
      rw [zn_add, br_oiF (by omega) (by omega), br_oiF (by omega) (by omega), zn_cl (by omega), v, h3]
    · have q1 : rwR (T 0 0) (rrf r) 117 (am_w m1.1 116 (5 + T 0 0) (zn (r 3)), m1.2) := rwR_w (f := rrf r) q e
      intro c x y
      show am_w _ _ _ _ _ _ = _
      rw [wr_ne (by omega)]
      exact q1 c x y
    · show am_w (am_w m1.1 116 (5 + T 0 0) (zn (r 3))) 117 (5 + T 0 0) (zn 0) 117 (5 + T 0 0) = zn 0
      rw [w_at, upd_at]
    · exact frR_tr (frR_w (c := 116) (j := 5 + T 0 0) (x := zn (r 3)) (by unfold wokR; omega)) (frR_w (by unfold wokR; omega))
theorem thC {X : Nat → Nat} {n p : Nat} {T G F : Td} {fg : Nat → Bool} {cn : Nat} {r : Nat → Nat} (hp : p ≤ n) (W : pW n T G F cn (tok X n p)) (hN : T 0 0 < 5) (h8 : r 8 = (tok X n p).2.1) (h6 : r 6 = sp_look (r 8)) (h3 : r 3 = (tok X n (tok X n p).2.2.2).2.1) (h4 : r 4 = hwt (tok X n (tok X n (tok X n p).2.2.2).2.2.2)) (hT : r 8 ≤ 511 → r 3 ≤ 9 → tW (Tth T r)) : bk X n T G F fg cn (tok X n p) (rwC (T 0 0) (rcf r) 9) (rwR (T 0 0) (rrf r) 115) (hcC (T 0 0)) (hrC (T 0 0)) := by
  have a1 := tok_at (X := X) hp
  have a2 := tok_at (X := X) a1.2.1
  refine bk_num (dc := 0) (dr := 2) (lo := 0) (hi := 511) (fun m9 => am_b (am_oi (zn (T 0 0)) 5) none (am_bI (am_c 4 y_Told_lookOf [.int (m9.1 1 11)] (am_w m9.1 9 ((zn (T 0 0)).toNatClampNeg) (m9.1 1 11), m9.2)) (fun r12 m11 => am_b (am_oi (zn (T 0 0)) 5) none (hcD (T 0 0) (am_w m11.1 10 ((zn (T 0 0)).toNatClampNeg) r12, m11.2))))) (fun m9 => am_b (am_oi ((zn 5) + (zn (T 0 0))) 10) none (hrD (T 0 0) (am_w m9.1 115 (((zn 5) + (zn (T 0 0))).toNatClampNeg) (m9.1 107 11), m9.2))) (hcD (T 0 0)) (hrD (T 0 0)) hp (by omega) (by omega) (fun m _ _ => rfl) (fun m _ _ => rfl) (fun l1 l2 => ⟨fun m m1 q h e v => ?_, fun m m1 q h e v => ?_, thD (r := r) a1.2.1 ⟨W.tw, W.gw, W.gf, W.cn, W.kn, a2.2.1, W.n7⟩ hN h3 h4 (hT (by omega))⟩)
  · refine ⟨(am_w (am_w m1.1 9 (T 0 0) (zn (r 8))) 10 (T 0 0) (zn (r 6)), m1.2), ?_, (h.row (c := 9) (x := zn (r 8)) (Or.inl ⟨by omega, by omega, rfl⟩)).row (Or.inl ⟨by omega, by omega, rfl⟩), rwC_w (f := rcf r) (rwC_w (f := rcf r) q e) (fun _ _ _ => rfl), frC_tr (frC_w (c := 9) (j := T 0 0) (x := zn (r 8)) (by omega)) (frC_w (by omega))⟩
    show am_b _ _ _ = _
    rw [br_oiF (by omega) (by omega), zn_cl (by omega), v, s_lookC (d := 2) (by omega), bI_s, br_oiF (by omega) (by omega), h6, h8]
  · refine ⟨(am_w m1.1 115 (5 + T 0 0) (zn (r 8)), m1.2), ?_, h.row (Or.inl ⟨by omega, by omega, rfl⟩), rwR_w (f := rrf r) q e, frR_w (by unfold wokR; omega)⟩
    show am_b _ _ _ = _
    rw [zn_add, br_oiF (by omega) (by omega), zn_cl (by omega), v, h8]
theorem thB {X : Nat → Nat} {n p : Nat} {T G F : Td} {fg : Nat → Bool} {cn : Nat} {r : Nat → Nat} (hp : p ≤ n) (W : pW n T G F cn (tok X n p)) (hN : T 0 0 < 5) (h2 : r 2 = (tok X n p).2.1) (h8 : r 8 = (tok X n (tok X n p).2.2.2).2.1) (h6 : r 6 = sp_look (r 8)) (h3 : r 3 = (tok X n (tok X n (tok X n p).2.2.2).2.2.2).2.1) (h4 : r 4 = hwt (tok X n (tok X n (tok X n (tok X n p).2.2.2).2.2.2).2.2.2)) (hT : r 2 ≤ 9 → r 8 ≤ 511 → r 3 ≤ 9 → tW (Tth T r)) : bk X n T G F fg cn (tok X n p) (rwC (T 0 0) (rcf r) 8) (rwR (T 0 0) (rrf r) 114) (hcB (T 0 0)) (hrB (T 0 0)) := by
  have a1 := tok_at (X := X) hp
  have a2 := tok_at (X := X) a1.2.1
  refine bk_num (dc := 0) (dr := 2) (lo := 1) (hi := 9) (fun m9 => am_b (am_oi (zn (T 0 0)) 5) none (hcC (T 0 0) (am_w m9.1 8 ((zn (T 0 0)).toNatClampNeg) (m9.1 1 11), m9.2))) (fun m9 => am_b (am_oi ((zn 5) + (zn (T 0 0))) 10) none (hrC (T 0 0) (am_w m9.1 114 (((zn 5) + (zn (T 0 0))).toNatClampNeg) (m9.1 107 11), m9.2))) (hcC (T 0 0)) (hrC (T 0 0)) hp (by omega) (by omega) (fun m _ _ => rfl) (fun m _ _ => rfl) (fun l1 l2 => ⟨fun m m1 q h e v => ?_, fun m m1 q h e v => ?_, thC (r := r) a1.2.1 ⟨W.tw, W.gw, W.gf, W.cn, W.kn, a2.2.1, W.n7⟩ hN h8 h6 h3 h4 (hT (by omega))⟩)
  · refine ⟨(am_w m1.1 8 (T 0 0) (zn (r 2)), m1.2), ?_, h.row (Or.inl ⟨by omega, by omega, rfl⟩), rwC_w (f := rcf r) q e, frC_w (by omega)⟩
    show am_b _ _ _ = _
    rw [br_oiF (by omega) (by omega), zn_cl (by omega), v, h2]
  · refine ⟨(am_w m1.1 114 (5 + T 0 0) (zn (r 2)), m1.2), ?_, h.row (Or.inl ⟨by omega, by omega, rfl⟩), rwR_w (f := rrf r) q e, frR_w (by unfold wokR; omega)⟩
    show am_b _ _ _ = _
    rw [zn_add, br_oiF (by omega) (by omega), zn_cl (by omega), v, h2]
theorem thA {X : Nat → Nat} {n p : Nat} {T G F : Td} {fg : Nat → Bool} {cn : Nat} {r : Nat → Nat} (hp : p ≤ n) (W : pW n T G F cn (tok X n p)) (hN : T 0 0 < 5) (h1 : r 1 = (tok X n p).2.1) (h2 : r 2 = (tok X n (tok X n p).2.2.2).2.1) (h8 : r 8 = (tok X n (tok X n (tok X n p).2.2.2).2.2.2).2.1) (h6 : r 6 = sp_look (r 8)) (h3 : r 3 = (tok X n (tok X n (tok X n (tok X n p).2.2.2).2.2.2).2.2.2).2.1) (h4 : r 4 = hwt (tok X n (tok X n (tok X n (tok X n (tok X n p).2.2.2).2.2.2).2.2.2).2.2.2)) (hT : r 1 ≤ 29 → r 2 ≤ 9 → r 8 ≤ 511 → r 3 ≤ 9 → tW (Tth T r)) : bk X n T G F fg cn (tok X n p) (rwC (T 0 0) (rcf r) 7) (rwR (T 0 0) (rrf r) 113) (hcA (T 0 0)) (hrA (T 0 0)) := by
  have a1 := tok_at (X := X) hp
  have a2 := tok_at (X := X) a1.2.1
  refine bk_num (dc := 0) (dr := 2) (lo := 0) (hi := 29) (fun m9 => am_b (am_oi (zn (T 0 0)) 5) none (hcB (T 0 0) (am_w m9.1 7 ((zn (T 0 0)).toNatClampNeg) (m9.1 1 11), m9.2))) (fun m9 => am_b (am_oi ((zn 5) + (zn (T 0 0))) 10) none (hrB (T 0 0) (am_w m9.1 113 (((zn 5) + (zn (T 0 0))).toNatClampNeg) (m9.1 107 11), m9.2))) (hcB (T 0 0)) (hrB (T 0 0)) hp (by omega) (by omega) (fun m _ _ => rfl) (fun m _ _ => rfl) (fun l1 l2 => ⟨fun m m1 q h e v => ?_, fun m m1 q h e v => ?_, thB (r := r) a1.2.1 ⟨W.tw, W.gw, W.gf, W.cn, W.kn, a2.2.1, W.n7⟩ hN h2 h8 h6 h3 h4 (hT (by omega))⟩)
  · refine ⟨(am_w m1.1 7 (T 0 0) (zn (r 1)), m1.2), ?_, h.row (Or.inl ⟨by omega, by omega, rfl⟩), rwC_w (f := rcf r) q e, frC_w (by omega)⟩
    show am_b _ _ _ = _
    rw [br_oiF (by omega) (by omega), zn_cl (by omega), v, h1]
  · refine ⟨(am_w m1.1 113 (5 + T 0 0) (zn (r 1)), m1.2), ?_, h.row (Or.inl ⟨by omega, by omega, rfl⟩), rwR_w (f := rrf r) q e, frR_w (by unfold wokR; omega)⟩
    show am_b _ _ _ = _
    rw [zn_add, br_oiF (by omega) (by omega), zn_cl (by omega), v, h1]
theorem L_thing {X : Nat → Nat} {n : Nat} {T G F : Td} {fg : Nat → Bool} {cn : Nat} {t : Tk} (W : pW n T G F cn t) (ht : t.1 = 0) (hat : t.2.2.1 ≤ n) : bothL X n T G F fg cn t := by
  have hn5 := W.tw.n; have hn7 := W.n7; have hnx := W.nx
  have a1 := tok_at (X := X) hnx
  have a2 := tok_at (X := X) a1.2.1
  have v1 := tok_V (X := X) hnx
  refine bothL_bk (am_c 5 y_Reader_readThing [.ref 1]) (am_c 6 y_M_thingLine [.ref 107]) (fun m h x m' hx e => ?_) (fun m h x m' e => ?_) ?_
  · rw [n_Reader_readLine, h.k.k, ht, br_eqT rfl]
    exact rl_of (R := none) hx e
  · have hk := h.k.k
    rw [ht] at hk
    rcases rtk_key hk with ⟨_, q2, q3⟩ | ⟨q1, _⟩
    · have q3' : m.1 107 9 = zn 0 := q3
      rw [n_M_lineRead, q2, br_eqT rfl, q3', br_leT (by omega) (by omega), br_eqT rfl, e, bI_s]
    · omega
  by_cases g : T 0 0 = 5
  · refine bk_fail (dc := 3) (dr := 4) 2 (by omega) hat (fun m h _ m' e => ?_) (fun m h _ m' e => ?_)
    · rw [n_Reader_readThing, h.nt, br_ltF (by omega) (by omega), e, bI_s, br_eqT rfl]
    · rw [n_M_thingLine, h.nt, br_eqT g, e, bI_s, br_eqT rfl]
  have hN : T 0 0 < 5 := by omega
  by_cases g1 : (tok X n t.2.2.2).1 = 25
  · have hv := v1.2.1 g1
    have nm : ∀ {m : am_M}, pR X n T G F fg cn (tok X n t.2.2.2) m → m.1 107 8 = zn 2 ∧ m.1 107 9 = zn (tok X n t.2.2.2).2.1 := fun h => by
      rcases rtk_name h.k.k with ⟨_, z2, z3⟩ | ⟨z1, _⟩
      · exact ⟨z2, z3⟩
      · exact absurd g1 z1
    rcases fd_or (f := T 7) (x := zn (tok X n t.2.2.2).2.1) (T 0 0) 0 with g2 | ⟨j, j1, j2, g2⟩
    · have g3 : fnd T (tok X n t.2.2.2).2.1 = zm := g2
      refine bk_step (T' := T) (G' := G) (F' := F) (fg' := fg) (cn' := cn) (t' := tok X n (tok X n t.2.2.2).2.2.2) (PC' := rwC (T 0 0) (rcf (fun a => if a = 7 then (tok X n t.2.2.2).2.1 else if a = 1 then (tok X n (tok X n t.2.2.2).2.2.2).2.1 else if a = 2 then (tok X n (tok X n (tok X n t.2.2.2).2.2.2).2.2.2).2.1 else if a = 8 then (tok X n (tok X n (tok X n (tok X n t.2.2.2).2.2.2).2.2.2).2.2.2).2.1 else if a = 6 then sp_look (tok X n (tok X n (tok X n (tok X n t.2.2.2).2.2.2).2.2.2).2.2.2).2.1 else if a = 3 then (tok X n (tok X n (tok X n (tok X n (tok X n t.2.2.2).2.2.2).2.2.2).2.2.2).2.2.2).2.1 else hwt (tok X n (tok X n (tok X n (tok X n (tok X n (tok X n t.2.2.2).2.2.2).2.2.2).2.2.2).2.2.2).2.2.2))) 7) (PR' := rwR (T 0 0) (rrf (fun a => if a = 7 then (tok X n t.2.2.2).2.1 else if a = 1 then (tok X n (tok X n t.2.2.2).2.2.2).2.1 else if a = 2 then (tok X n (tok X n (tok X n t.2.2.2).2.2.2).2.2.2).2.1 else if a = 8 then (tok X n (tok X n (tok X n (tok X n t.2.2.2).2.2.2).2.2.2).2.2.2).2.1 else if a = 6 then sp_look (tok X n (tok X n (tok X n (tok X n t.2.2.2).2.2.2).2.2.2).2.2.2).2.1 else if a = 3 then (tok X n (tok X n (tok X n (tok X n (tok X n t.2.2.2).2.2.2).2.2.2).2.2.2).2.2.2).2.1 else hwt (tok X n (tok X n (tok X n (tok X n (tok X n (tok X n t.2.2.2).2.2.2).2.2.2).2.2.2).2.2.2).2.2.2))) 113) (hcA (T 0 0)) (hrA (T 0 0)) (by omega) (fun m h _ => ?_) (fun m h _ => ?_) (thA a1.2.1 ⟨W.tw, W.gw, W.gf, W.cn, W.kn, a2.2.1, W.n7⟩ hN rfl rfl rfl rfl rfl rfl (fun b1 b2 b8 b3 => Tth_W W.tw hN hv (Nat.lt_succ_of_le b1) (Nat.lt_succ_of_le b2) (Nat.lt_succ_of_le b8) rfl (mv_lt _ (Nat.lt_succ_of_le b8)) (Nat.lt_succ_of_le b3) (by show hwt _ < 3; unfold hwt; (repeat' split) <;> omega)))
      · obtain ⟨m1, b1, b2, b3⟩ := adv_C (d := 1) h hnx
        obtain ⟨m2, c1, c2, c3⟩ := adv_C (d := 1) (b2.row (c := 6) (j := T 0 0) (x := zn (tok X n t.2.2.2).2.1) (Or.inl ⟨by omega, by omega, rfl⟩)) a1.2.1
        refine ⟨m2, ?_, c2, fun c x y => ?_, frC_tr b3.C (frC_tr (frC_w (by omega)) c3.C)⟩
        · rw [n_Reader_readThing, h.nt, br_ltT hN (by omega), b1, bV_s, b2.k.k, br_eqT g1, b2.k.le g1, named_C W.tw b2, bI_s, g3, br_eq, if_pos rfl, br_oiF (by omega) (by omega), zn_cl (by omega), b2.k.le g1, c1, bV_s]
          unfold hcA hcB hcC hcD hcE
          rw [zn_cl (by omega)]
        · have : c = 6 := by omega
          subst this
          rw [c3.2.1 6 (by omega)]
          show am_w m1.1 6 (T 0 0) (zn (tok X n t.2.2.2).2.1) 6 (T 0 0) = _
          rw [w_at, upd_at]; rfl
      · obtain ⟨m1, b1, b2, b3⟩ := adv_R (d := 3) h hnx
        obtain ⟨m2, c1, c2, c3⟩ := adv_R (d := 3) (b2.row (c := 112) (j := 5 + T 0 0) (x := zn (tok X n t.2.2.2).2.1) (Or.inl ⟨by omega, by omega, rfl⟩)) a1.2.1
        obtain ⟨n1, n2⟩ := nm b2
        refine ⟨m2, ?_, c2, fun c x y => ?_, frR_tr b3.R (frR_tr (frR_w (by unfold wokR; omega)) c3.R)⟩
        · rw [n_M_thingLine, h.nt, br_eqF g (by omega) (by omega), b1, bV_s, n1, br_eqT rfl, n2, b2.nt, named_R W.tw b2, bI_s, g3, br_lt, if_pos (by decide), b2.nt, zn_add, br_oiF (by omega) (by omega), zn_cl (by omega), n2, c1, bV_s]
          unfold hrA hrB hrC hrD hrE
          rw [zn_add, zn_cl (by omega)]
        · have : c = 112 := by omega
          subst this
          rw [c3.2.1 112 (by omega)]
          show am_w m1.1 112 (5 + T 0 0) (zn (tok X n t.2.2.2).2.1) 112 (5 + T 0 0) = _
          rw [w_at, upd_at]; rfl
    · have g3 : fnd T (tok X n t.2.2.2).2.1 = zn j := g2
      refine Or.inl ⟨3, (tok X n t.2.2.2).2.2.1, by omega, by omega, a1.1, fun m h _ => ?_, fun m h _ => ?_⟩
      · obtain ⟨m1, b1, b2, b3⟩ := adv_C (d := 1) h hnx
        obtain ⟨m2, c1, c2⟩ := s_failC (d := 3) (k := 3) b2.k.at_
        refine ⟨m2, ?_, flC_tr b3.C c2⟩
        rw [n_Reader_readThing, h.nt, br_ltT hN (by omega), b1, bV_s, b2.k.k, br_eqT g1, b2.k.le g1, named_C W.tw b2, bI_s, g3, br_eq, if_neg (zm_ne (by omega)), c1, bI_s, br_eqT rfl]
      · obtain ⟨m1, b1, b2, b3⟩ := adv_R (d := 3) h hnx
        obtain ⟨n1, n2⟩ := nm b2
        obtain ⟨m2, c1, c2⟩ := s_failR (d := 4) (k := 3) b2.k.at_
        refine ⟨m2, ?_, flR_tr b3.R c2⟩
        rw [n_M_thingLine, h.nt, br_eqF g (by omega) (by omega), b1, bV_s, n1, br_eqT rfl, n2, b2.nt, named_R W.tw b2, bI_s, g3, br_ltF (by omega) (by omega), c1, bI_s, br_eqT rfl]
  · refine Or.inl ⟨1, (tok X n t.2.2.2).2.2.1, by omega, by omega, a1.1, fun m h _ => ?_, fun m h _ => ?_⟩
    · obtain ⟨m1, b1, b2, b3⟩ := adv_C (d := 1) h hnx
      obtain ⟨m2, c1, c2⟩ := s_failC (d := 3) (k := 1) b2.k.at_
      refine ⟨m2, ?_, flC_tr b3.C c2⟩
      rw [n_Reader_readThing, h.nt, br_ltT hN (by omega), b1, bV_s, b2.k.k, br_eqF g1 (by omega) (by omega), c1, bI_s, br_eqT rfl]
    · obtain ⟨m1, b1, b2, b3⟩ := adv_R (d := 3) h hnx
      obtain ⟨m2, c1, c2⟩ := s_failR (d := 4) (k := 1) b2.k.at_
      refine ⟨m2, ?_, flR_tr b3.R c2⟩
      rcases rtk_name b2.k.k with ⟨z1, _⟩ | ⟨_, x, z2, z3, z4⟩
      · exact absurd z1 g1
      · rw [n_M_thingLine, h.nt, br_eqF g (by omega) (by omega), b1, bV_s, z2, br_eqF z4 (by omega) (by omega), c1, bI_s, br_eqT rfl]
