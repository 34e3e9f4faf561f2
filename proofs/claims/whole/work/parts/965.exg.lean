/-! laws' lines: an expression, whole -/
def bq (X : Nat → Nat) (n : Nat) (T G F : Td) (fg : Nat → Bool) (cn : Nat) (t : Tk) (fr : Nat) (PC PR : am_M → Prop) (kc kr : am_M → am_R) : Prop :=
  (∃ k a, 1 ≤ k ∧ k ≤ 5 ∧ a ≤ n ∧ (∀ m, pC X n T G F fg cn t m → PC m → ∃ m', kc m = some (some (.int (zn 0)), m') ∧ flC k a m m') ∧ (∀ m, pR X n T G F fg cn t m → PR m → ∃ m', kr m = some (some (.int (zn 0)), m') ∧ flR k a m m'))
  ∨ (∃ (G' F' : Td) (cn' : Nat) (t' : Tk), gW G' F' ∧ (∀ a i, a ≠ 2 → F' a i = F a i) ∧ cn' ≤ 64 ∧ F' 2 0 ≤ cn' ∧ fr < F' 2 0 ∧ wfs G' (F' 2 0 - fr) fr [] ∧ t'.2.2.2 ≤ n ∧ t.2.2.2 ≤ t'.2.2.2 ∧ t'.1 < 42 ∧ t'.2.2.1 ≤ n ∧ (∀ m, pC X n T G F fg cn t m → PC m → ∃ m', kc m = some (some (.int (zn 1)), m') ∧ pC X n T G' F' fg cn' t' m' ∧ frC m m') ∧ (∀ m, pR X n T G F fg cn t m → PR m → ∃ m', kr m = some (some (.int (zn 1)), m') ∧ pR X n T G' F' fg cn' t' m' ∧ frR m m'))
theorem bq_step {X : Nat → Nat} {n : Nat} {T G F G' F' : Td} {fg : Nat → Bool} {cn cn' fr : Nat} {t t' : Tk} {PC PR PC' PR' : am_M → Prop} {kc kr : am_M → am_R} (kc' kr' : am_M → am_R) (ht : t.2.2.2 ≤ t'.2.2.2) (hF : ∀ a i, a ≠ 2 → F' a i = F a i)
    (hC : ∀ m, pC X n T G F fg cn t m → PC m → ∃ m1, kc m = kc' m1 ∧ pC X n T G' F' fg cn' t' m1 ∧ PC' m1 ∧ frC m m1)
    (hR : ∀ m, pR X n T G F fg cn t m → PR m → ∃ m1, kr m = kr' m1 ∧ pR X n T G' F' fg cn' t' m1 ∧ PR' m1 ∧ frR m m1)
    (h : bq X n T G' F' fg cn' t' fr PC' PR' kc' kr') : bq X n T G F fg cn t fr PC PR kc kr := by
  rcases h with ⟨k, a, h1, h2, h3, h4, h5⟩ | ⟨G1, F1, cn1, t1, h1, h2, h3, h4, h5, h6, h7, h8, h9, h10, h11, h12⟩
  · refine Or.inl ⟨k, a, h1, h2, h3, fun m p q => ?_, fun m p q => ?_⟩
    · obtain ⟨m1, b1, b2, b3, b4⟩ := hC m p q
      obtain ⟨m2, c1, c2⟩ := h4 m1 b2 b3
      exact ⟨m2, by rw [b1, c1], flC_tr b4 c2⟩
    · obtain ⟨m1, b1, b2, b3, b4⟩ := hR m p q
      obtain ⟨m2, c1, c2⟩ := h5 m1 b2 b3
      exact ⟨m2, by rw [b1, c1], flR_tr b4 c2⟩
  · refine Or.inr ⟨G1, F1, cn1, t1, h1, fun a i ha => by rw [h2 a i ha, hF a i ha], h3, h4, h5, h6, h7, by omega, h9, h10, fun m p q => ?_, fun m p q => ?_⟩
    · obtain ⟨m1, b1, b2, b3, b4⟩ := hC m p q
      obtain ⟨m2, c1, c2, c3⟩ := h11 m1 b2 b3
      exact ⟨m2, by rw [b1, c1], c2, frC_tr b4 c3⟩
    · obtain ⟨m1, b1, b2, b3, b4⟩ := hR m p q
      obtain ⟨m2, c1, c2, c3⟩ := h12 m1 b2 b3
      exact ⟨m2, by rw [b1, c1], c2, frR_tr b4 c3⟩
theorem ex_cl {X : Nat → Nat} {n p gc gr x1 : Nat} {T G F : Td} {fg : Nat → Bool} {cn fr : Nat} {w s : List Nat} {e nt : Bool} {kc kr : am_M → am_R} {KC KR : am_M → am_R} (hp : p ≤ n) (S : stp X n T G F fg cn (tok X n p) fr w s e nt kc kr)
    (hC : ∀ m, pC X n T G F fg cn (tok X n p) m → eC w e nt m → KC m = am_bI (kc m) (fun r2 m1 => am_b (am_eq r2 (zn 0)) (some (some (.int (zn 0)), m1)) (am_bV (am_c 3 y_Scanner_advance [.ref 2] m1) (fun m3 => r_Reader_readExpression_22 3 gc (zn x1 + zn 1) m3))))
    (hR : ∀ m, pR X n T G F fg cn (tok X n p) m → eR w s e nt m → KR m = am_bI (kr m) (fun r2 m1 => am_b (am_eq r2 (zn 0)) (some (some (.int (zn 0)), m1)) (r_M_sumRead_25 5 gr m1)))
    (REC : (tok X n p).1 ≠ 40 → ∀ (G' F' : Td) (cn' : Nat) (w' s' : List Nat) (e' nt' : Bool), eI fr G' F' cn' w' s' e' → gW G' F' → cn' ≤ 64 → bq X n T G' F' fg cn' (tok X n (tok X n p).2.2.2) fr (eC w' e' nt') (eR w' s' e' nt') (fun m => r_Reader_readExpression_22 3 gc (zn (x1 + 1)) m) (fun m => r_M_sumRead_25 5 gr m)) : bq X n T G F fg cn (tok X n p) fr (eC w e nt) (eR w s e nt) KC KR := by
  have a1 := tok_at (X := X) hp
  have a2 := tok_at (X := X) a1.2.1
  rcases S with ⟨k, k1, k2, k3, k4⟩ | ⟨n40, G', F', cn', w', s', e', nt', j1, j2, j3, j4, j5, j6⟩
  · refine Or.inl ⟨k, (tok X n p).2.2.1, k1, k2, a1.1, fun m h c => ?_, fun m h c => ?_⟩
    · obtain ⟨m', b1, b2⟩ := k3 m h c
      exact ⟨m', by rw [hC m h c, b1, bI_s, br_eqT rfl], b2⟩
    · obtain ⟨m', b1, b2⟩ := k4 m h c
      exact ⟨m', by rw [hR m h c, b1, bI_s, br_eqT rfl], b2⟩
  · refine bq_step (fun m => r_Reader_readExpression_22 3 gc (zn (x1 + 1)) m) (fun m => r_M_sumRead_25 5 gr m) a2.2.2.1 j4 (fun m h c => ?_) (fun m h c => ?_) (REC n40 G' F' cn' w' s' e' nt' j1 j2 j3)
    · obtain ⟨m1, b1, b2, b3, b4⟩ := j5 m h c
      obtain ⟨m2, c1, c2, c3⟩ := adv_C (d := 0) b2 a1.2.1
      exact ⟨m2, by rw [hC m h c, b1, bI_s, br_eqF (by omega) (by omega) (by omega), c1, bV_s, zn_add], c2, eC_k b3 c3, frC_tr b4 c3.C⟩
    · obtain ⟨m1, b1, b2, b3, b4⟩ := j6 m h c
      exact ⟨m1, by rw [hR m h c, b1, bI_s, br_eqF (by omega) (by omega) (by omega)], b2, b3, b4⟩
theorem ex_it {X : Nat → Nat} {n p gc gr x1 : Nat} {T G F : Td} {fg : Nat → Bool} {cn fr : Nat} {w s : List Nat} {e nt : Bool} (hp : p ≤ n) (hx : x1 ≤ 700) (I : eI fr G F cn w s e) (gw : gW G F) (hcn : cn ≤ 64)
    (REC : (tok X n p).1 ≠ 40 → ∀ (G' F' : Td) (cn' : Nat) (w' s' : List Nat) (e' nt' : Bool), eI fr G' F' cn' w' s' e' → gW G' F' → cn' ≤ 64 → bq X n T G' F' fg cn' (tok X n (tok X n p).2.2.2) fr (eC w' e' nt') (eR w' s' e' nt') (fun m => r_Reader_readExpression_22 3 gc (zn (x1 + 1)) m) (fun m => r_M_sumRead_25 5 gr m)) : bq X n T G F fg cn (tok X n p) fr (eC w e nt) (eR w s e nt) (fun m => r_Reader_readExpression_22 3 (gc + 2) (zn x1) m) (fun m => r_M_sumRead_25 5 (gr + 2) m) := by
  have a1 := tok_at (X := X) hp
  have v1 := tok_V (X := X) hp
  have io8 := I.o8
  have icn := I.cn
  have sg := sg_at (K := (tok X n p).1)
  by_cases g : e = false ∧ pr_ w = 0 ∧ (tok X n p).1 = 27
  · obtain ⟨g1, g2, g3⟩ := g
    subst g1
    obtain ⟨w', s', G', F', j1, j2, j3, j4, j5, j6, j7⟩ := bnd (X := X) (n := n) (T := T) (fg := fg) (t := tok X n p) (nt := nt) (dc := 1) (dr := 3) (x := 1) (by omega) (by omega) hcn w s G F I gw
    have hlen := len_pn w
    have k2 := j1.cn
    have hw : w' = [] := by
      rcases j5 with e | ⟨q, v, e, er⟩
      · exact e
      · subst e
        have q0 := b0F j1.wk er
        rw [pr_, if_pos q0] at j4
        omega
    subst hw
    have sl : s'.length = 1 := j1.sl
    have rI' := j1.ri
    obtain ⟨tp1, tp2⟩ : fr < F' 2 0 ∧ s' = [F' 2 0 - 1] := by
      rcases j1.tp with ⟨z1, z2⟩ | ⟨z1, z2, z3⟩
      · rw [z1] at sl; cases sl
      · rw [z3, List.length_cons] at sl
        have : z2 = [] := List.length_eq_zero_iff.mp (by omega)
        exact ⟨z1, by rw [z3, this]⟩
    have wf := rI' G' (fun _ _ _ => rfl) 0 (by rw [tp2]; rfl)
    rw [Nat.add_zero] at wf
    refine Or.inr ⟨G', F', cn, tok X n p, j2, j3, hcn, by omega, tp1, wf, a1.2.1, by omega, v1.1, a1.1, fun m h c => ?_, fun m h c => ?_⟩
    · obtain ⟨m1, e1, e2, e3, e4⟩ := j6 (29999 + 1) m (by omega) h c
      refine ⟨m1, ?_, e2, e4⟩
      show r_Reader_readExpression_22 3 (gc + 1 + 1) (zn x1) m = _
      rw [e_Reader_readExpression_22 3 (gc + 1), br_ltF (by omega) (by omega), c.e, br_zb, if_neg (by simp), c.o, br_eqT g2, h.k.k, br_eqT g3, n_Reader_putWaiting, e1, bV_s]
    · obtain ⟨m1, e1, e2, e3, e4⟩ := j7 (29999 + 1) m none none none (by omega) h c
      refine ⟨m1, ?_, e2, e4⟩
      show r_M_sumRead_25 5 (gr + 1 + 1) m = _
      rw [e_M_sumRead_25 5 (gr + 1), isSign_R (d := 4) (by omega) h.k.k, decide_eq_true (sg.1.mpr g3), bI_s, br_zb, if_pos rfl, c.e, br_zb, if_neg (by simp), c.o, br_leT (by omega) (by omega), n_M_bind, e1, bV_s]
  have c22 : ∀ m, pC X n T G F fg cn (tok X n p) m → eC w e nt m → r_Reader_readExpression_22 3 (gc + 2) (zn x1) m = r_Reader_readExpression_62 3 (gc + 1) (zn x1) m := by
    intro m h c
    show r_Reader_readExpression_22 3 (gc + 1 + 1) (zn x1) m = _
    rw [e_Reader_readExpression_22 3 (gc + 1), br_ltF (by omega) (by omega), c.e, br_zb]
    cases e with
    | true => rw [if_pos rfl]
    | false =>
      rw [if_neg (by simp), c.o]
      by_cases g2 : pr_ w = 0
      · rw [br_eqT g2, h.k.k, br_eqF (fun z => g ⟨rfl, g2, z⟩) (by omega) (by omega)]
      · rw [br_eqF g2 (by omega) (by omega)]
  have r25 : ∀ m, pR X n T G F fg cn (tok X n p) m → eR w s e nt m → r_M_sumRead_25 5 (gr + 2) m = r_M_sumRead_48 5 (gr + 1) m := by
    intro m h c
    show r_M_sumRead_25 5 (gr + 1 + 1) m = _
    rw [e_M_sumRead_25 5 (gr + 1), isSign_R (d := 4) (by omega) h.k.k, bI_s, br_zb]
    by_cases g3 : (tok X n p).1 = 27
    · rw [decide_eq_true (sg.1.mpr g3), if_pos rfl, c.e, br_zb]
      cases e with
      | true => rw [if_pos rfl]
      | false =>
        rw [if_neg (by simp), c.o]
        by_cases g2 : pr_ w = 0
        · exact absurd ⟨rfl, g2, g3⟩ g
        · rw [br_leF (by omega) (by omega)]
    · rw [decide_eq_false (fun z => g3 (sg.1.mp z)), if_neg (by simp)]
  cases e with
  | true =>
    refine ex_cl hp (op_stp hp I gw hcn) (fun m h c => ?_) (fun m h c => ?_) REC
    · show r_Reader_readExpression_22 3 (gc + 2) (zn x1) m = _
      rw [c22 m h c, e_Reader_readExpression_62 3 gc, c.e, br_zb, if_pos rfl]
    · show r_M_sumRead_25 5 (gr + 2) m = _
      rw [r25 m h c, e_M_sumRead_48 5 gr, c.e, br_zb, if_pos rfl]
  | false =>
    refine ex_cl hp (sg_stp hp I gw hcn) (fun m h c => ?_) (fun m h c => ?_) REC
    · show r_Reader_readExpression_22 3 (gc + 2) (zn x1) m = _
      rw [c22 m h c, e_Reader_readExpression_62 3 gc, c.e, br_zb, if_neg (by simp)]
    · show r_M_sumRead_25 5 (gr + 2) m = _
      rw [r25 m h c, e_M_sumRead_48 5 gr, c.e, br_zb, if_neg (by simp)]
theorem ex_loop {X : Nat → Nat} {n fr : Nat} {T : Td} {fg : Nat → Bool} (hn7 : n ≤ 700) : ∀ (N p cn x1 gc gr : Nat) (G F : Td) (w s : List Nat) (e nt : Bool), p ≤ n → ((tok X n p).1 = 40 ∨ n - (tok X n p).2.2.2 + 1 ≤ N) → (x1 + 1 ≤ (tok X n p).2.2.2 ∨ ((tok X n p).1 = 40 ∧ x1 ≤ n)) → 2 * N + 2 ≤ gc → 2 * N + 2 ≤ gr → eI fr G F cn w s e → gW G F → cn ≤ 64 → bq X n T G F fg cn (tok X n p) fr (eC w e nt) (eR w s e nt) (fun m => r_Reader_readExpression_22 3 gc (zn x1) m) (fun m => r_M_sumRead_25 5 gr m) := by
  intro N
  induction N with
  | zero =>
    intro p cn x1 gc gr G F w s e nt hp h1 h2 h3 h4 I gw hcn
    have a1 := tok_at (X := X) hp
    obtain ⟨gc, rfl⟩ : ∃ k, gc = k + 2 := ⟨gc - 2, by omega⟩
    obtain ⟨gr, rfl⟩ : ∃ k, gr = k + 2 := ⟨gr - 2, by omega⟩
    exact ex_it hp (by omega) I gw hcn (fun z => by omega)
  | succ N ih =>
    intro p cn x1 gc gr G F w s e nt hp h1 h2 h3 h4 I gw hcn
    have a1 := tok_at (X := X) hp
    have a2 := tok_at (X := X) a1.2.1
    obtain ⟨gc, rfl⟩ : ∃ k, gc = k + 2 := ⟨gc - 2, by omega⟩
    obtain ⟨gr, rfl⟩ : ∃ k, gr = k + 2 := ⟨gr - 2, by omega⟩
    exact ex_it hp (by omega) I gw hcn (fun z G' F' cn' w' s' e' nt' i1 i2 i3 => ih (tok X n p).2.2.2 cn' (x1 + 1) gc gr G' F' w' s' e' nt' a1.2.1 (by omega) (by omega) (by omega) (by omega) i1 i2 i3)
