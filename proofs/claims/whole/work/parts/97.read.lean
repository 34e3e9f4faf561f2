/-! a text: line after line -/
theorem L_none {X : Nat → Nat} {n : Nat} {T G F : Td} {fg : Nat → Bool} {cn : Nat} {t : Tk} (ht : 6 < t.1) (hK : t.1 < 42) (hat : t.2.2.1 ≤ n) : bothL X n T G F fg cn t := by
  refine Or.inl ⟨1, t.2.2.1, by omega, by omega, hat, fun m h => ?_, fun m h => ?_⟩
  · obtain ⟨m', b1, b2⟩ := s_failC (d := 4) (k := 1) h.k.at_
    refine ⟨m', ?_, b2⟩
    rw [n_Reader_readLine, h.k.k, br_eqF (by omega) (by omega) (by omega), br_eqF (by omega) (by omega) (by omega), br_eqF (by omega) (by omega) (by omega), br_eqF (by omega) (by omega) (by omega), br_eqF (by omega) (by omega) (by omega), br_eqF (by omega) (by omega) (by omega), br_eqF (by omega) (by omega) (by omega), b1, bI_s, br_eqT rfl]
  · obtain ⟨m', b1, b2⟩ := s_failR (d := 5) (k := 1) h.k.at_
    refine ⟨m', ?_, b2⟩
    rcases rtk_key h.k.k with ⟨z1, z2, z3⟩ | ⟨z1, x, z2, z3, z4⟩
    · have hk : 6 < kk t.1 ∧ kk t.1 < 25 := by unfold kk; (repeat' split) <;> omega
      rw [n_M_lineRead, z2, z3, br_eqT rfl, br_leF hk.1 (by omega), b1, bI_s, br_eqT rfl]
    · rw [n_M_lineRead, z2, br_eqF z4 (by omega) (by omega), b1, bI_s, br_eqT rfl]
theorem L_any {X : Nat → Nat} {n : Nat} {T G F : Td} {fg : Nat → Bool} {cn : Nat} {t : Tk} (W : pW n T G F cn t) (hK : t.1 < 42) (hat : t.2.2.1 ≤ n) : bothL X n T G F fg cn t := by
  rcases Nat.lt_or_ge 6 t.1 with q | q
  · exact L_none q hK hat
  · rcases (by omega : t.1 = 0 ∨ t.1 = 1 ∨ t.1 = 2 ∨ t.1 = 3 ∨ t.1 = 4 ∨ t.1 = 5 ∨ t.1 = 6) with e | e | e | e | e | e | e
    · exact L_thing W e hat
    · exact L_lamp W e hat
    · exact L_meet W e hat
    · exact L_rule W e hat
    · exact L_fog W e hat
    · exact L_seed W e hat
    · exact L_law W e hat
theorem rtk_0 {K V : Nat} {a b : Int32} (h : rtk K V a b) : (K = 40 ∧ a = zn 0) ∨ (K ≠ 40 ∧ ∃ x, a = zn x ∧ x ≤ 6 ∧ x ≠ 0) := by
  rcases h with ⟨h1, h2, h3⟩ | ⟨h1, h2, h3⟩ | ⟨h1, h2, h3⟩ | ⟨h1, h2, h3⟩ | ⟨h1, h1', h2, h3⟩ | ⟨h1, h2⟩ | ⟨h1, h2⟩
  · exact Or.inr ⟨by omega, 1, h2, by omega, by omega⟩
  · exact Or.inr ⟨by omega, 2, h2, by omega, by omega⟩
  · exact Or.inr ⟨by omega, 3, h2, by omega, by omega⟩
  · refine Or.inr ⟨fun e => ?_, 4, h2, by omega, by omega⟩
    rw [e] at h1; exact h1 rfl
  · exact Or.inr ⟨by omega, 5, h2, by omega, by omega⟩
  · exact Or.inl ⟨h1, h2⟩
  · rcases h2 with h2 | h2
    · exact Or.inr ⟨by omega, 6, h2, by omega, by omega⟩
    · exact Or.inr ⟨by omega, 4, h2.1, by omega, by omega⟩
/-- the rest of a text, both -/
def bothT (X : Nat → Nat) (n : Nat) (T G F : Td) (fg : Nat → Bool) (cn : Nat) (t : Tk) (gc gr i : Nat) : Prop :=
  (∃ k a, 1 ≤ k ∧ k ≤ 5 ∧ a ≤ n ∧ (∀ m, pC X n T G F fg cn t m → ∃ m' x, r_Reader_read_47 6 gc (zn n) (zn i) m = some (some (.int x), m') ∧ flC k a m m') ∧ (∀ m, pR X n T G F fg cn t m → ∃ m', r_M_text_55 7 gr (zn n) (zn i) m = some (some (.int zm), m') ∧ flR k a m m'))
  ∨ (∃ T' G' F' fg' cn' t' j, pW n T' G' F' cn' t' ∧ j ≤ n ∧ (∀ m, pC X n T G F fg cn t m → ∃ m', r_Reader_read_47 6 gc (zn n) (zn i) m = some (some (.int (zn j)), m') ∧ pC X n T' G' F' fg' cn' t' m' ∧ frC m m') ∧ (∀ m, pR X n T G F fg cn t m → ∃ m', r_M_text_55 7 gr (zn n) (zn i) m = am_bV (am_c 7 y_M_keepText [.ref 107] m') (fun m1 => some (some (.int (zn j)), m1)) ∧ pR X n T' G' F' fg' cn' t' m' ∧ frR m m'))
theorem rd_loop {X : Nat → Nat} {n : Nat} (hn7 : n ≤ 700) : ∀ (N p i gc gr : Nat) (T G F : Td) (fg : Nat → Bool) (cn : Nat), p ≤ n → n - p ≤ N → i ≤ p → N < gc → N < gr → pW n T G F cn (tok X n p) → bothT X n T G F fg cn (tok X n p) gc gr i := by
  intro N
  induction N with
  | zero =>
    intro p i gc gr T G F fg cn hp hN hi hgc hgr W
    have a1 := tok_at (X := X) hp
    obtain ⟨gc, rfl⟩ : ∃ k, gc = k + 1 := ⟨gc - 1, by omega⟩
    obtain ⟨gr, rfl⟩ : ∃ k, gr = k + 1 := ⟨gr - 1, by omega⟩
    have g : (tok X n p).1 = 40 := by omega
    refine Or.inr ⟨T, G, F, fg, cn, tok X n p, i, W, by omega, fun m h => ⟨m, ?_, h, frC_refl m⟩, fun m h => ⟨m, ?_, h, frR_refl m⟩⟩
    · rw [e_Reader_read_47, br_ltF (by omega) (by omega), h.k.k, br_eqT g]
    · rcases rtk_0 h.k.k with ⟨_, z⟩ | ⟨z, _⟩
      · rw [e_M_text_55, z, br_eqT rfl]
      · exact absurd g z
  | succ N ih =>
    intro p i gc gr T G F fg cn hp hN hi hgc hgr W
    have a1 := tok_at (X := X) hp
    have v1 := tok_V (X := X) hp
    obtain ⟨gc, rfl⟩ : ∃ k, gc = k + 1 := ⟨gc - 1, by omega⟩
    obtain ⟨gr, rfl⟩ : ∃ k, gr = k + 1 := ⟨gr - 1, by omega⟩
    by_cases g : (tok X n p).1 = 40
    · refine Or.inr ⟨T, G, F, fg, cn, tok X n p, i, W, by omega, fun m h => ⟨m, ?_, h, frC_refl m⟩, fun m h => ⟨m, ?_, h, frR_refl m⟩⟩
      · rw [e_Reader_read_47, br_ltF (by omega) (by omega), h.k.k, br_eqT g]
      · rcases rtk_0 h.k.k with ⟨_, z⟩ | ⟨z, _⟩
        · rw [e_M_text_55, z, br_eqT rfl]
        · exact absurd g z
    have pC1 : ∀ m, pC X n T G F fg cn (tok X n p) m → r_Reader_read_47 6 (gc + 1) (zn n) (zn i) m = am_bI (am_c 6 y_Reader_readLine [.ref 1] m) (fun r2 m1 => am_b (am_eq r2 (zn 0)) (some (some (.int (zn i)), m1)) (am_bI (am_c 6 y_Reader_pass [.ref 1, .int (zn 27)] m1) (fun r4 m3 => am_b (am_eq r4 (zn 0)) (some (some (.int (zn i)), m3)) (r_Reader_read_47 6 gc (zn n) (zn (i + 1)) m3)))) := fun m h => by
      rw [e_Reader_read_47, br_ltF (by omega) (by omega), h.k.k, br_eqF g (by omega) (by omega), zn_add]
    have pR1 : ∀ m, pR X n T G F fg cn (tok X n p) m → r_M_text_55 7 (gr + 1) (zn n) (zn i) m = am_bI (am_c 7 y_M_lineRead [.ref 107] m) (fun r3 m2 => am_b (am_eq r3 (zn 0)) (some (some (.int zm), m2)) (r_M_text_55 7 gr (zn n) (zn (i + 1)) m2)) := fun m h => by
      rcases rtk_0 h.k.k with ⟨z, _⟩ | ⟨_, x, z2, z3, z4⟩
      · exact absurd z g
      · rw [e_M_text_55, z2, br_eqF z4 (by omega) (by omega), zn_add]
    rcases L_any (X := X) (fg := fg) W v1.1 a1.1 with ⟨k, a, h1, h2, h3, h4, h5⟩ | ⟨T', G', F', fg', cn', t', h1, h2, h3, h4, h5, h6⟩
    · refine Or.inl ⟨k, a, h1, h2, h3, fun m h => ?_, fun m h => ?_⟩
      · obtain ⟨m', b1, b2⟩ := h4 m h
        exact ⟨m', zn i, by rw [pC1 m h, b1, bI_s, br_eqT rfl], b2⟩
      · obtain ⟨m', b1, b2⟩ := h5 m h
        exact ⟨m', by rw [pR1 m h, b1, bI_s, br_eqT rfl], b2⟩
    · have hnx' := h1.nx
      have a3 := tok_at (X := X) hnx'
      by_cases g27 : t'.1 = 27
      · have W' : pW n T' G' F' cn' (tok X n t'.2.2.2) := ⟨h1.tw, h1.gw, h1.gf, h1.cn, h1.kn, a3.2.1, hn7⟩
        have pC2 : ∀ m, pC X n T G F fg cn (tok X n p) m → ∃ m3, r_Reader_read_47 6 (gc + 1) (zn n) (zn i) m = r_Reader_read_47 6 gc (zn n) (zn (i + 1)) m3 ∧ pC X n T' G' F' fg' cn' (tok X n t'.2.2.2) m3 ∧ frC m m3 := fun m h => by
          obtain ⟨m1, b1, b2, b3⟩ := h5 m h
          obtain ⟨m3, c1, c2, c3⟩ := adv_C (d := 2) b2 hnx'
          exact ⟨m3, by rw [pC1 m h, b1, bI_s, br_eqF (by omega) (by omega) (by omega), n_Reader_pass, b2.k.k, br_eqT g27, c1, bV_s, bI_s, br_eqF (by omega) (by omega) (by omega)], c2, frC_tr b3 c3.C⟩
        have pR2 : ∀ m, pR X n T G F fg cn (tok X n p) m → ∃ m3, r_M_text_55 7 (gr + 1) (zn n) (zn i) m = r_M_text_55 7 gr (zn n) (zn (i + 1)) m3 ∧ pR X n T' G' F' fg' cn' (tok X n t'.2.2.2) m3 ∧ frR m m3 := fun m h => by
          obtain ⟨m1, x, b1, b2, b3⟩ := h6 m h
          obtain ⟨m3, c1, c2, c3⟩ := adv_R (d := 4) b2 hnx'
          exact ⟨m3, by rw [pR1 m h, b1, e_M_lineRead_331 6 29998, br_eqF (by omega) (by omega) (by omega), isSign_R (d := 5) (by omega) b2.k.k, decide_eq_true (sg_at.1.mpr g27), bI_s, br_zb, if_pos rfl, c1, bV_s, bI_s, br_eqF (by omega) (by omega) (by omega)], c2, frR_tr b3 c3.R⟩
        rcases ih t'.2.2.2 (i + 1) gc gr T' G' F' fg' cn' hnx' (by omega) (by omega) (by omega) (by omega) W' with ⟨k, a, j1, j2, j3, j4, j5⟩ | ⟨T2, G2, F2, fg2, cn2, t2, j, j1, j2, j3, j4⟩
        · refine Or.inl ⟨k, a, j1, j2, j3, fun m h => ?_, fun m h => ?_⟩
          · obtain ⟨m3, b1, b2, b3⟩ := pC2 m h
            obtain ⟨m', x, c1, c2⟩ := j4 m3 b2
            exact ⟨m', x, by rw [b1, c1], flC_tr b3 c2⟩
          · obtain ⟨m3, b1, b2, b3⟩ := pR2 m h
            obtain ⟨m', c1, c2⟩ := j5 m3 b2
            exact ⟨m', by rw [b1, c1], flR_tr b3 c2⟩
        · refine Or.inr ⟨T2, G2, F2, fg2, cn2, t2, j, j1, j2, fun m h => ?_, fun m h => ?_⟩
          · obtain ⟨m3, b1, b2, b3⟩ := pC2 m h
            obtain ⟨m', c1, c2, c3⟩ := j3 m3 b2
            exact ⟨m', by rw [b1, c1], c2, frC_tr b3 c3⟩
          · obtain ⟨m3, b1, b2, b3⟩ := pR2 m h
            obtain ⟨m', c1, c2, c3⟩ := j4 m3 b2
            exact ⟨m', by rw [b1, c1], c2, frR_tr b3 c3⟩
      · refine Or.inl ⟨1, t'.2.2.1, by omega, by omega, h4, fun m h => ?_, fun m h => ?_⟩
        · obtain ⟨m1, b1, b2, b3⟩ := h5 m h
          obtain ⟨m3, c1, c2⟩ := s_failC (d := 4) (k := 1) b2.k.at_
          exact ⟨m3, zn i, by rw [pC1 m h, b1, bI_s, br_eqF (by omega) (by omega) (by omega), n_Reader_pass, b2.k.k, br_eqF g27 (by omega) (by omega), c1, bI_s, br_eqT rfl, bI_s, br_eqT rfl], flC_tr b3 c2⟩
        · obtain ⟨m1, x, b1, b2, b3⟩ := h6 m h
          obtain ⟨m3, c1, c2⟩ := s_failR (d := 5) (k := 1) b2.k.at_
          exact ⟨m3, by rw [pR1 m h, b1, e_M_lineRead_331 6 29998, br_eqF (by omega) (by omega) (by omega), isSign_R (d := 5) (by omega) b2.k.k, decide_eq_false (fun z => g27 (sg_at.1.mp z)), bI_s, br_zb, if_neg (by simp), c1, bI_s, br_eqT rfl, bI_s, br_eqT rfl], flR_tr b3 c2⟩
