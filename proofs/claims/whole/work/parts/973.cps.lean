/-! a text is kept: reference, the copies -/
def cpd (c b : Nat) (m m' : am_M) : Prop := m'.2 = m.2 ∧ (∀ c', c' ≠ c → m'.1 c' = m.1 c') ∧ (∀ j, j < b → m'.1 c j = m.1 c (b + j))
theorem lcp_111 {d : Nat} (r : Nat) : ∀ (i g : Nat) (m : am_M), i + r = 3 → r < g → ∃ m', r_M_copies_111_2 d g (zn 3) (zn i) m = some (none, m') ∧ m'.2 = m.2 ∧ (∀ c', c' ≠ 111 → m'.1 c' = m.1 c') ∧ (∀ j, i ≤ j → j < 3 → m'.1 111 j = m.1 111 (3 + j)) ∧ (∀ j, j < i ∨ 3 ≤ j → m'.1 111 j = m.1 111 j) := by
  induction r with
  | zero =>
    intro i g m h1 h2; obtain ⟨g, rfl⟩ : ∃ k, g = k + 1 := ⟨g - 1, by omega⟩
    exact ⟨m, by rw [e_M_copies_111_2, br_leT (by omega) (by omega)], rfl, fun _ _ => rfl, fun j a b => by omega, fun _ _ => rfl⟩
  | succ r ih =>
    intro i g m h1 h2; obtain ⟨g, rfl⟩ : ∃ k, g = k + 1 := ⟨g - 1, by omega⟩
    obtain ⟨m', b1, b2, b3, b4, b5⟩ := ih (i + 1) g (am_w m.1 111 i (m.1 111 (3 + i)), m.2) (by omega) (by omega)
    refine ⟨m', ?_, b2, fun c' hc => ?_, fun j x y => ?_, fun j x => ?_⟩
    · rw [e_M_copies_111_2, br_leF (by omega) (by omega), zn_add, br_oiF (by omega) (by omega), br_oiF (by omega) (by omega), zn_cl (by omega), zn_cl (by omega), zn_add, b1]
    · rw [b3 c' hc]; show am_w m.1 111 i (m.1 111 (3 + i)) c' = _; rw [w_ne hc]
    · by_cases e : j = i
      · subst e; rw [b5 j (by omega)]; show am_w m.1 111 j (m.1 111 (3 + j)) 111 j = _; rw [w_at, upd_at]
      · rw [b4 j (by omega) y]; show am_w m.1 111 i (m.1 111 (3 + i)) 111 (3 + j) = _; rw [w_at, upd_ne (by omega)]
    · rw [b5 j (by omega)]; show am_w m.1 111 i (m.1 111 (3 + i)) 111 j = _; rw [w_at, upd_ne (by omega)]
theorem cp_111 {d : Nat} (m : am_M) : ∃ m', am_c (d + 1) y_M_copies [.ref 111, .int (zn 3)] m = some (none, m') ∧ cpd 111 3 m m' := by
  obtain ⟨m', b1, b2, b3, b4, b5⟩ := lcp_111 (d := d) 3 0 29999 m (by omega) (by omega)
  exact ⟨m', by rw [n_M_copies_111, b1], b2, b3, fun j hj => b4 j (by omega) hj⟩
theorem lcp_112 {d : Nat} (r : Nat) : ∀ (i g : Nat) (m : am_M), i + r = 5 → r < g → ∃ m', r_M_copies_112_2 d g (zn 5) (zn i) m = some (none, m') ∧ m'.2 = m.2 ∧ (∀ c', c' ≠ 112 → m'.1 c' = m.1 c') ∧ (∀ j, i ≤ j → j < 5 → m'.1 112 j = m.1 112 (5 + j)) ∧ (∀ j, j < i ∨ 5 ≤ j → m'.1 112 j = m.1 112 j) := by
  induction r with
  | zero =>
    intro i g m h1 h2; obtain ⟨g, rfl⟩ : ∃ k, g = k + 1 := ⟨g - 1, by omega⟩
    exact ⟨m, by rw [e_M_copies_112_2, br_leT (by omega) (by omega)], rfl, fun _ _ => rfl, fun j a b => by omega, fun _ _ => rfl⟩
  | succ r ih =>
    intro i g m h1 h2; obtain ⟨g, rfl⟩ : ∃ k, g = k + 1 := ⟨g - 1, by omega⟩
    obtain ⟨m', b1, b2, b3, b4, b5⟩ := ih (i + 1) g (am_w m.1 112 i (m.1 112 (5 + i)), m.2) (by omega) (by omega)
    refine ⟨m', ?_, b2, fun c' hc => ?_, fun j x y => ?_, fun j x => ?_⟩
    · rw [e_M_copies_112_2, br_leF (by omega) (by omega), zn_add, br_oiF (by omega) (by omega), br_oiF (by omega) (by omega), zn_cl (by omega), zn_cl (by omega), zn_add, b1]
    · rw [b3 c' hc]; show am_w m.1 112 i (m.1 112 (5 + i)) c' = _; rw [w_ne hc]
    · by_cases e : j = i
      · subst e; rw [b5 j (by omega)]; show am_w m.1 112 j (m.1 112 (5 + j)) 112 j = _; rw [w_at, upd_at]
      · rw [b4 j (by omega) y]; show am_w m.1 112 i (m.1 112 (5 + i)) 112 (5 + j) = _; rw [w_at, upd_ne (by omega)]
    · rw [b5 j (by omega)]; show am_w m.1 112 i (m.1 112 (5 + i)) 112 j = _; rw [w_at, upd_ne (by omega)]
theorem cp_112 {d : Nat} (m : am_M) : ∃ m', am_c (d + 1) y_M_copies [.ref 112, .int (zn 5)] m = some (none, m') ∧ cpd 112 5 m m' := by
  obtain ⟨m', b1, b2, b3, b4, b5⟩ := lcp_112 (d := d) 5 0 29999 m (by omega) (by omega)
  exact ⟨m', by rw [n_M_copies_112, b1], b2, b3, fun j hj => b4 j (by omega) hj⟩
theorem lcp_113 {d : Nat} (r : Nat) : ∀ (i g : Nat) (m : am_M), i + r = 5 → r < g → ∃ m', r_M_copies_113_2 d g (zn 5) (zn i) m = some (none, m') ∧ m'.2 = m.2 ∧ (∀ c', c' ≠ 113 → m'.1 c' = m.1 c') ∧ (∀ j, i ≤ j → j < 5 → m'.1 113 j = m.1 113 (5 + j)) ∧ (∀ j, j < i ∨ 5 ≤ j → m'.1 113 j = m.1 113 j) := by
  induction r with
  | zero =>
    intro i g m h1 h2; obtain ⟨g, rfl⟩ : ∃ k, g = k + 1 := ⟨g - 1, by omega⟩
    exact ⟨m, by rw [e_M_copies_113_2, br_leT (by omega) (by omega)], rfl, fun _ _ => rfl, fun j a b => by omega, fun _ _ => rfl⟩
  | succ r ih =>
    intro i g m h1 h2; obtain ⟨g, rfl⟩ : ∃ k, g = k + 1 := ⟨g - 1, by omega⟩
    obtain ⟨m', b1, b2, b3, b4, b5⟩ := ih (i + 1) g (am_w m.1 113 i (m.1 113 (5 + i)), m.2) (by omega) (by omega)
    refine ⟨m', ?_, b2, fun c' hc => ?_, fun j x y => ?_, fun j x => ?_⟩
    · rw [e_M_copies_113_2, br_leF (by omega) (by omega), zn_add, br_oiF (by omega) (by omega), br_oiF (by omega) (by omega), zn_cl (by omega), zn_cl (by omega), zn_add, b1]
    · rw [b3 c' hc]; show am_w m.1 113 i (m.1 113 (5 + i)) c' = _; rw [w_ne hc]
    · by_cases e : j = i
      · subst e; rw [b5 j (by omega)]; show am_w m.1 113 j (m.1 113 (5 + j)) 113 j = _; rw [w_at, upd_at]
      · rw [b4 j (by omega) y]; show am_w m.1 113 i (m.1 113 (5 + i)) 113 (5 + j) = _; rw [w_at, upd_ne (by omega)]
    · rw [b5 j (by omega)]; show am_w m.1 113 i (m.1 113 (5 + i)) 113 j = _; rw [w_at, upd_ne (by omega)]
theorem cp_113 {d : Nat} (m : am_M) : ∃ m', am_c (d + 1) y_M_copies [.ref 113, .int (zn 5)] m = some (none, m') ∧ cpd 113 5 m m' := by
  obtain ⟨m', b1, b2, b3, b4, b5⟩ := lcp_113 (d := d) 5 0 29999 m (by omega) (by omega)
  exact ⟨m', by rw [n_M_copies_113, b1], b2, b3, fun j hj => b4 j (by omega) hj⟩
theorem lcp_114 {d : Nat} (r : Nat) : ∀ (i g : Nat) (m : am_M), i + r = 5 → r < g → ∃ m', r_M_copies_114_2 d g (zn 5) (zn i) m = some (none, m') ∧ m'.2 = m.2 ∧ (∀ c', c' ≠ 114 → m'.1 c' = m.1 c') ∧ (∀ j, i ≤ j → j < 5 → m'.1 114 j = m.1 114 (5 + j)) ∧ (∀ j, j < i ∨ 5 ≤ j → m'.1 114 j = m.1 114 j) := by
  induction r with
  | zero =>
    intro i g m h1 h2; obtain ⟨g, rfl⟩ : ∃ k, g = k + 1 := ⟨g - 1, by omega⟩
    exact ⟨m, by rw [e_M_copies_114_2, br_leT (by omega) (by omega)], rfl, fun _ _ => rfl, fun j a b => by omega, fun _ _ => rfl⟩
  | succ r ih =>
    intro i g m h1 h2; obtain ⟨g, rfl⟩ : ∃ k, g = k + 1 := ⟨g - 1, by omega⟩
    obtain ⟨m', b1, b2, b3, b4, b5⟩ := ih (i + 1) g (am_w m.1 114 i (m.1 114 (5 + i)), m.2) (by omega) (by omega)
    refine ⟨m', ?_, b2, fun c' hc => ?_, fun j x y => ?_, fun j x => ?_⟩
    · rw [e_M_copies_114_2, br_leF (by omega) (by omega), zn_add, br_oiF (by omega) (by omega), br_oiF (by omega) (by omega), zn_cl (by omega), zn_cl (by omega), zn_add, b1]
    · rw [b3 c' hc]; show am_w m.1 114 i (m.1 114 (5 + i)) c' = _; rw [w_ne hc]
    · by_cases e : j = i
      · subst e; rw [b5 j (by omega)]; show am_w m.1 114 j (m.1 114 (5 + j)) 114 j = _; rw [w_at, upd_at]
      · rw [b4 j (by omega) y]; show am_w m.1 114 i (m.1 114 (5 + i)) 114 (5 + j) = _; rw [w_at, upd_ne (by omega)]
    · rw [b5 j (by omega)]; show am_w m.1 114 i (m.1 114 (5 + i)) 114 j = _; rw [w_at, upd_ne (by omega)]
theorem cp_114 {d : Nat} (m : am_M) : ∃ m', am_c (d + 1) y_M_copies [.ref 114, .int (zn 5)] m = some (none, m') ∧ cpd 114 5 m m' := by
  obtain ⟨m', b1, b2, b3, b4, b5⟩ := lcp_114 (d := d) 5 0 29999 m (by omega) (by omega)
  exact ⟨m', by rw [n_M_copies_114, b1], b2, b3, fun j hj => b4 j (by omega) hj⟩
theorem lcp_115 {d : Nat} (r : Nat) : ∀ (i g : Nat) (m : am_M), i + r = 5 → r < g → ∃ m', r_M_copies_115_2 d g (zn 5) (zn i) m = some (none, m') ∧ m'.2 = m.2 ∧ (∀ c', c' ≠ 115 → m'.1 c' = m.1 c') ∧ (∀ j, i ≤ j → j < 5 → m'.1 115 j = m.1 115 (5 + j)) ∧ (∀ j, j < i ∨ 5 ≤ j → m'.1 115 j = m.1 115 j) := by
  induction r with
  | zero =>
    intro i g m h1 h2; obtain ⟨g, rfl⟩ : ∃ k, g = k + 1 := ⟨g - 1, by omega⟩
    exact ⟨m, by rw [e_M_copies_115_2, br_leT (by omega) (by omega)], rfl, fun _ _ => rfl, fun j a b => by omega, fun _ _ => rfl⟩
  | succ r ih =>
    intro i g m h1 h2; obtain ⟨g, rfl⟩ : ∃ k, g = k + 1 := ⟨g - 1, by omega⟩
    obtain ⟨m', b1, b2, b3, b4, b5⟩ := ih (i + 1) g (am_w m.1 115 i (m.1 115 (5 + i)), m.2) (by omega) (by omega)
    refine ⟨m', ?_, b2, fun c' hc => ?_, fun j x y => ?_, fun j x => ?_⟩
    · rw [e_M_copies_115_2, br_leF (by omega) (by omega), zn_add, br_oiF (by omega) (by omega), br_oiF (by omega) (by omega), zn_cl (by omega), zn_cl (by omega), zn_add, b1]
    · rw [b3 c' hc]; show am_w m.1 115 i (m.1 115 (5 + i)) c' = _; rw [w_ne hc]
    · by_cases e : j = i
      · subst e; rw [b5 j (by omega)]; show am_w m.1 115 j (m.1 115 (5 + j)) 115 j = _; rw [w_at, upd_at]
      · rw [b4 j (by omega) y]; show am_w m.1 115 i (m.1 115 (5 + i)) 115 (5 + j) = _; rw [w_at, upd_ne (by omega)]
    · rw [b5 j (by omega)]; show am_w m.1 115 i (m.1 115 (5 + i)) 115 j = _; rw [w_at, upd_ne (by omega)]
theorem cp_115 {d : Nat} (m : am_M) : ∃ m', am_c (d + 1) y_M_copies [.ref 115, .int (zn 5)] m = some (none, m') ∧ cpd 115 5 m m' := by
  obtain ⟨m', b1, b2, b3, b4, b5⟩ := lcp_115 (d := d) 5 0 29999 m (by omega) (by omega)
  exact ⟨m', by rw [n_M_copies_115, b1], b2, b3, fun j hj => b4 j (by omega) hj⟩
theorem lcp_116 {d : Nat} (r : Nat) : ∀ (i g : Nat) (m : am_M), i + r = 5 → r < g → ∃ m', r_M_copies_116_2 d g (zn 5) (zn i) m = some (none, m') ∧ m'.2 = m.2 ∧ (∀ c', c' ≠ 116 → m'.1 c' = m.1 c') ∧ (∀ j, i ≤ j → j < 5 → m'.1 116 j = m.1 116 (5 + j)) ∧ (∀ j, j < i ∨ 5 ≤ j → m'.1 116 j = m.1 116 j) := by
  induction r with
  | zero =>
    intro i g m h1 h2; obtain ⟨g, rfl⟩ : ∃ k, g = k + 1 := ⟨g - 1, by omega⟩
    exact ⟨m, by rw [e_M_copies_116_2, br_leT (by omega) (by omega)], rfl, fun _ _ => rfl, fun j a b => by omega, fun _ _ => rfl⟩
  | succ r ih =>
    intro i g m h1 h2; obtain ⟨g, rfl⟩ : ∃ k, g = k + 1 := ⟨g - 1, by omega⟩
    obtain ⟨m', b1, b2, b3, b4, b5⟩ := ih (i + 1) g (am_w m.1 116 i (m.1 116 (5 + i)), m.2) (by omega) (by omega)
    refine ⟨m', ?_, b2, fun c' hc => ?_, fun j x y => ?_, fun j x => ?_⟩
    · rw [e_M_copies_116_2, br_leF (by omega) (by omega), zn_add, br_oiF (by omega) (by omega), br_oiF (by omega) (by omega), zn_cl (by omega), zn_cl (by omega), zn_add, b1]
    · rw [b3 c' hc]; show am_w m.1 116 i (m.1 116 (5 + i)) c' = _; rw [w_ne hc]
    · by_cases e : j = i
      · subst e; rw [b5 j (by omega)]; show am_w m.1 116 j (m.1 116 (5 + j)) 116 j = _; rw [w_at, upd_at]
      · rw [b4 j (by omega) y]; show am_w m.1 116 i (m.1 116 (5 + i)) 116 (5 + j) = _; rw [w_at, upd_ne (by omega)]
    · rw [b5 j (by omega)]; show am_w m.1 116 i (m.1 116 (5 + i)) 116 j = _; rw [w_at, upd_ne (by omega)]
theorem cp_116 {d : Nat} (m : am_M) : ∃ m', am_c (d + 1) y_M_copies [.ref 116, .int (zn 5)] m = some (none, m') ∧ cpd 116 5 m m' := by
  obtain ⟨m', b1, b2, b3, b4, b5⟩ := lcp_116 (d := d) 5 0 29999 m (by omega) (by omega)
  exact ⟨m', by rw [n_M_copies_116, b1], b2, b3, fun j hj => b4 j (by omega) hj⟩
theorem lcp_117 {d : Nat} (r : Nat) : ∀ (i g : Nat) (m : am_M), i + r = 5 → r < g → ∃ m', r_M_copies_117_2 d g (zn 5) (zn i) m = some (none, m') ∧ m'.2 = m.2 ∧ (∀ c', c' ≠ 117 → m'.1 c' = m.1 c') ∧ (∀ j, i ≤ j → j < 5 → m'.1 117 j = m.1 117 (5 + j)) ∧ (∀ j, j < i ∨ 5 ≤ j → m'.1 117 j = m.1 117 j) := by
  induction r with
  | zero =>
    intro i g m h1 h2; obtain ⟨g, rfl⟩ : ∃ k, g = k + 1 := ⟨g - 1, by omega⟩
    exact ⟨m, by rw [e_M_copies_117_2, br_leT (by omega) (by omega)], rfl, fun _ _ => rfl, fun j a b => by omega, fun _ _ => rfl⟩
  | succ r ih =>
    intro i g m h1 h2; obtain ⟨g, rfl⟩ : ∃ k, g = k + 1 := ⟨g - 1, by omega⟩
    obtain ⟨m', b1, b2, b3, b4, b5⟩ := ih (i + 1) g (am_w m.1 117 i (m.1 117 (5 + i)), m.2) (by omega) (by omega)
    refine ⟨m', ?_, b2, fun c' hc => ?_, fun j x y => ?_, fun j x => ?_⟩
    · rw [e_M_copies_117_2, br_leF (by omega) (by omega), zn_add, br_oiF (by omega) (by omega), br_oiF (by omega) (by omega), zn_cl (by omega), zn_cl (by omega), zn_add, b1]
    · rw [b3 c' hc]; show am_w m.1 117 i (m.1 117 (5 + i)) c' = _; rw [w_ne hc]
    · by_cases e : j = i
      · subst e; rw [b5 j (by omega)]; show am_w m.1 117 j (m.1 117 (5 + j)) 117 j = _; rw [w_at, upd_at]
      · rw [b4 j (by omega) y]; show am_w m.1 117 i (m.1 117 (5 + i)) 117 (5 + j) = _; rw [w_at, upd_ne (by omega)]
    · rw [b5 j (by omega)]; show am_w m.1 117 i (m.1 117 (5 + i)) 117 j = _; rw [w_at, upd_ne (by omega)]
theorem cp_117 {d : Nat} (m : am_M) : ∃ m', am_c (d + 1) y_M_copies [.ref 117, .int (zn 5)] m = some (none, m') ∧ cpd 117 5 m m' := by
  obtain ⟨m', b1, b2, b3, b4, b5⟩ := lcp_117 (d := d) 5 0 29999 m (by omega) (by omega)
  exact ⟨m', by rw [n_M_copies_117, b1], b2, b3, fun j hj => b4 j (by omega) hj⟩
theorem lcp_118 {d : Nat} (r : Nat) : ∀ (i g : Nat) (m : am_M), i + r = 5 → r < g → ∃ m', r_M_copies_118_2 d g (zn 5) (zn i) m = some (none, m') ∧ m'.2 = m.2 ∧ (∀ c', c' ≠ 118 → m'.1 c' = m.1 c') ∧ (∀ j, i ≤ j → j < 5 → m'.1 118 j = m.1 118 (5 + j)) ∧ (∀ j, j < i ∨ 5 ≤ j → m'.1 118 j = m.1 118 j) := by
  induction r with
  | zero =>
    intro i g m h1 h2; obtain ⟨g, rfl⟩ : ∃ k, g = k + 1 := ⟨g - 1, by omega⟩
    exact ⟨m, by rw [e_M_copies_118_2, br_leT (by omega) (by omega)], rfl, fun _ _ => rfl, fun j a b => by omega, fun _ _ => rfl⟩
  | succ r ih =>
    intro i g m h1 h2; obtain ⟨g, rfl⟩ : ∃ k, g = k + 1 := ⟨g - 1, by omega⟩
    obtain ⟨m', b1, b2, b3, b4, b5⟩ := ih (i + 1) g (am_w m.1 118 i (m.1 118 (5 + i)), m.2) (by omega) (by omega)
    refine ⟨m', ?_, b2, fun c' hc => ?_, fun j x y => ?_, fun j x => ?_⟩
    · rw [e_M_copies_118_2, br_leF (by omega) (by omega), zn_add, br_oiF (by omega) (by omega), br_oiF (by omega) (by omega), zn_cl (by omega), zn_cl (by omega), zn_add, b1]
    · rw [b3 c' hc]; show am_w m.1 118 i (m.1 118 (5 + i)) c' = _; rw [w_ne hc]
    · by_cases e : j = i
      · subst e; rw [b5 j (by omega)]; show am_w m.1 118 j (m.1 118 (5 + j)) 118 j = _; rw [w_at, upd_at]
      · rw [b4 j (by omega) y]; show am_w m.1 118 i (m.1 118 (5 + i)) 118 (5 + j) = _; rw [w_at, upd_ne (by omega)]
    · rw [b5 j (by omega)]; show am_w m.1 118 i (m.1 118 (5 + i)) 118 j = _; rw [w_at, upd_ne (by omega)]
theorem cp_118 {d : Nat} (m : am_M) : ∃ m', am_c (d + 1) y_M_copies [.ref 118, .int (zn 5)] m = some (none, m') ∧ cpd 118 5 m m' := by
  obtain ⟨m', b1, b2, b3, b4, b5⟩ := lcp_118 (d := d) 5 0 29999 m (by omega) (by omega)
  exact ⟨m', by rw [n_M_copies_118, b1], b2, b3, fun j hj => b4 j (by omega) hj⟩
theorem lcp_119 {d : Nat} (r : Nat) : ∀ (i g : Nat) (m : am_M), i + r = 5 → r < g → ∃ m', r_M_copies_119_2 d g (zn 5) (zn i) m = some (none, m') ∧ m'.2 = m.2 ∧ (∀ c', c' ≠ 119 → m'.1 c' = m.1 c') ∧ (∀ j, i ≤ j → j < 5 → m'.1 119 j = m.1 119 (5 + j)) ∧ (∀ j, j < i ∨ 5 ≤ j → m'.1 119 j = m.1 119 j) := by
  induction r with
  | zero =>
    intro i g m h1 h2; obtain ⟨g, rfl⟩ : ∃ k, g = k + 1 := ⟨g - 1, by omega⟩
    exact ⟨m, by rw [e_M_copies_119_2, br_leT (by omega) (by omega)], rfl, fun _ _ => rfl, fun j a b => by omega, fun _ _ => rfl⟩
  | succ r ih =>
    intro i g m h1 h2; obtain ⟨g, rfl⟩ : ∃ k, g = k + 1 := ⟨g - 1, by omega⟩
    obtain ⟨m', b1, b2, b3, b4, b5⟩ := ih (i + 1) g (am_w m.1 119 i (m.1 119 (5 + i)), m.2) (by omega) (by omega)
    refine ⟨m', ?_, b2, fun c' hc => ?_, fun j x y => ?_, fun j x => ?_⟩
    · rw [e_M_copies_119_2, br_leF (by omega) (by omega), zn_add, br_oiF (by omega) (by omega), br_oiF (by omega) (by omega), zn_cl (by omega), zn_cl (by omega), zn_add, b1]
    · rw [b3 c' hc]; show am_w m.1 119 i (m.1 119 (5 + i)) c' = _; rw [w_ne hc]
    · by_cases e : j = i
      · subst e; rw [b5 j (by omega)]; show am_w m.1 119 j (m.1 119 (5 + j)) 119 j = _; rw [w_at, upd_at]
      · rw [b4 j (by omega) y]; show am_w m.1 119 i (m.1 119 (5 + i)) 119 (5 + j) = _; rw [w_at, upd_ne (by omega)]
    · rw [b5 j (by omega)]; show am_w m.1 119 i (m.1 119 (5 + i)) 119 j = _; rw [w_at, upd_ne (by omega)]
theorem cp_119 {d : Nat} (m : am_M) : ∃ m', am_c (d + 1) y_M_copies [.ref 119, .int (zn 5)] m = some (none, m') ∧ cpd 119 5 m m' := by
  obtain ⟨m', b1, b2, b3, b4, b5⟩ := lcp_119 (d := d) 5 0 29999 m (by omega) (by omega)
  exact ⟨m', by rw [n_M_copies_119, b1], b2, b3, fun j hj => b4 j (by omega) hj⟩
theorem lcp_120 {d : Nat} (r : Nat) : ∀ (i g : Nat) (m : am_M), i + r = 10 → r < g → ∃ m', r_M_copies_120_2 d g (zn 10) (zn i) m = some (none, m') ∧ m'.2 = m.2 ∧ (∀ c', c' ≠ 120 → m'.1 c' = m.1 c') ∧ (∀ j, i ≤ j → j < 10 → m'.1 120 j = m.1 120 (10 + j)) ∧ (∀ j, j < i ∨ 10 ≤ j → m'.1 120 j = m.1 120 j) := by
  induction r with
  | zero =>
    intro i g m h1 h2; obtain ⟨g, rfl⟩ : ∃ k, g = k + 1 := ⟨g - 1, by omega⟩
    exact ⟨m, by rw [e_M_copies_120_2, br_leT (by omega) (by omega)], rfl, fun _ _ => rfl, fun j a b => by omega, fun _ _ => rfl⟩
  | succ r ih =>
    intro i g m h1 h2; obtain ⟨g, rfl⟩ : ∃ k, g = k + 1 := ⟨g - 1, by omega⟩
    obtain ⟨m', b1, b2, b3, b4, b5⟩ := ih (i + 1) g (am_w m.1 120 i (m.1 120 (10 + i)), m.2) (by omega) (by omega)
    refine ⟨m', ?_, b2, fun c' hc => ?_, fun j x y => ?_, fun j x => ?_⟩
    · rw [e_M_copies_120_2, br_leF (by omega) (by omega), zn_add, br_oiF (by omega) (by omega), br_oiF (by omega) (by omega), zn_cl (by omega), zn_cl (by omega), zn_add, b1]
    · rw [b3 c' hc]; show am_w m.1 120 i (m.1 120 (10 + i)) c' = _; rw [w_ne hc]
    · by_cases e : j = i
      · subst e; rw [b5 j (by omega)]; show am_w m.1 120 j (m.1 120 (10 + j)) 120 j = _; rw [w_at, upd_at]
      · rw [b4 j (by omega) y]; show am_w m.1 120 i (m.1 120 (10 + i)) 120 (10 + j) = _; rw [w_at, upd_ne (by omega)]
    · rw [b5 j (by omega)]; show am_w m.1 120 i (m.1 120 (10 + i)) 120 j = _; rw [w_at, upd_ne (by omega)]
theorem cp_120 {d : Nat} (m : am_M) : ∃ m', am_c (d + 1) y_M_copies [.ref 120, .int (zn 10)] m = some (none, m') ∧ cpd 120 10 m m' := by
  obtain ⟨m', b1, b2, b3, b4, b5⟩ := lcp_120 (d := d) 10 0 29999 m (by omega) (by omega)
  exact ⟨m', by rw [n_M_copies_120, b1], b2, b3, fun j hj => b4 j (by omega) hj⟩
theorem lcp_121 {d : Nat} (r : Nat) : ∀ (i g : Nat) (m : am_M), i + r = 10 → r < g → ∃ m', r_M_copies_121_2 d g (zn 10) (zn i) m = some (none, m') ∧ m'.2 = m.2 ∧ (∀ c', c' ≠ 121 → m'.1 c' = m.1 c') ∧ (∀ j, i ≤ j → j < 10 → m'.1 121 j = m.1 121 (10 + j)) ∧ (∀ j, j < i ∨ 10 ≤ j → m'.1 121 j = m.1 121 j) := by
  induction r with
  | zero =>
    intro i g m h1 h2; obtain ⟨g, rfl⟩ : ∃ k, g = k + 1 := ⟨g - 1, by omega⟩
    exact ⟨m, by rw [e_M_copies_121_2, br_leT (by omega) (by omega)], rfl, fun _ _ => rfl, fun j a b => by omega, fun _ _ => rfl⟩
  | succ r ih =>
    intro i g m h1 h2; obtain ⟨g, rfl⟩ : ∃ k, g = k + 1 := ⟨g - 1, by omega⟩
    obtain ⟨m', b1, b2, b3, b4, b5⟩ := ih (i + 1) g (am_w m.1 121 i (m.1 121 (10 + i)), m.2) (by omega) (by omega)
    refine ⟨m', ?_, b2, fun c' hc => ?_, fun j x y => ?_, fun j x => ?_⟩
    · rw [e_M_copies_121_2, br_leF (by omega) (by omega), zn_add, br_oiF (by omega) (by omega), br_oiF (by omega) (by omega), zn_cl (by omega), zn_cl (by omega), zn_add, b1]
    · rw [b3 c' hc]; show am_w m.1 121 i (m.1 121 (10 + i)) c' = _; rw [w_ne hc]
    · by_cases e : j = i
      · subst e; rw [b5 j (by omega)]; show am_w m.1 121 j (m.1 121 (10 + j)) 121 j = _; rw [w_at, upd_at]
      · rw [b4 j (by omega) y]; show am_w m.1 121 i (m.1 121 (10 + i)) 121 (10 + j) = _; rw [w_at, upd_ne (by omega)]
    · rw [b5 j (by omega)]; show am_w m.1 121 i (m.1 121 (10 + i)) 121 j = _; rw [w_at, upd_ne (by omega)]
theorem cp_121 {d : Nat} (m : am_M) : ∃ m', am_c (d + 1) y_M_copies [.ref 121, .int (zn 10)] m = some (none, m') ∧ cpd 121 10 m m' := by
  obtain ⟨m', b1, b2, b3, b4, b5⟩ := lcp_121 (d := d) 10 0 29999 m (by omega) (by omega)
  exact ⟨m', by rw [n_M_copies_121, b1], b2, b3, fun j hj => b4 j (by omega) hj⟩
theorem lcp_123 {d : Nat} (r : Nat) : ∀ (i g : Nat) (m : am_M), i + r = 3 → r < g → ∃ m', r_M_copies_123_2 d g (zn 3) (zn i) m = some (none, m') ∧ m'.2 = m.2 ∧ (∀ c', c' ≠ 123 → m'.1 c' = m.1 c') ∧ (∀ j, i ≤ j → j < 3 → m'.1 123 j = m.1 123 (3 + j)) ∧ (∀ j, j < i ∨ 3 ≤ j → m'.1 123 j = m.1 123 j) := by
  induction r with
  | zero =>
    intro i g m h1 h2; obtain ⟨g, rfl⟩ : ∃ k, g = k + 1 := ⟨g - 1, by omega⟩
    exact ⟨m, by rw [e_M_copies_123_2, br_leT (by omega) (by omega)], rfl, fun _ _ => rfl, fun j a b => by omega, fun _ _ => rfl⟩
  | succ r ih =>
    intro i g m h1 h2; obtain ⟨g, rfl⟩ : ∃ k, g = k + 1 := ⟨g - 1, by omega⟩
    obtain ⟨m', b1, b2, b3, b4, b5⟩ := ih (i + 1) g (am_w m.1 123 i (m.1 123 (3 + i)), m.2) (by omega) (by omega)
    refine ⟨m', ?_, b2, fun c' hc => ?_, fun j x y => ?_, fun j x => ?_⟩
    · rw [e_M_copies_123_2, br_leF (by omega) (by omega), zn_add, br_oiF (by omega) (by omega), br_oiF (by omega) (by omega), zn_cl (by omega), zn_cl (by omega), zn_add, b1]
    · rw [b3 c' hc]; show am_w m.1 123 i (m.1 123 (3 + i)) c' = _; rw [w_ne hc]
    · by_cases e : j = i
      · subst e; rw [b5 j (by omega)]; show am_w m.1 123 j (m.1 123 (3 + j)) 123 j = _; rw [w_at, upd_at]
      · rw [b4 j (by omega) y]; show am_w m.1 123 i (m.1 123 (3 + i)) 123 (3 + j) = _; rw [w_at, upd_ne (by omega)]
    · rw [b5 j (by omega)]; show am_w m.1 123 i (m.1 123 (3 + i)) 123 j = _; rw [w_at, upd_ne (by omega)]
theorem cp_123 {d : Nat} (m : am_M) : ∃ m', am_c (d + 1) y_M_copies [.ref 123, .int (zn 3)] m = some (none, m') ∧ cpd 123 3 m m' := by
  obtain ⟨m', b1, b2, b3, b4, b5⟩ := lcp_123 (d := d) 3 0 29999 m (by omega) (by omega)
  exact ⟨m', by rw [n_M_copies_123, b1], b2, b3, fun j hj => b4 j (by omega) hj⟩
theorem lcp_124 {d : Nat} (r : Nat) : ∀ (i g : Nat) (m : am_M), i + r = 3 → r < g → ∃ m', r_M_copies_124_2 d g (zn 3) (zn i) m = some (none, m') ∧ m'.2 = m.2 ∧ (∀ c', c' ≠ 124 → m'.1 c' = m.1 c') ∧ (∀ j, i ≤ j → j < 3 → m'.1 124 j = m.1 124 (3 + j)) ∧ (∀ j, j < i ∨ 3 ≤ j → m'.1 124 j = m.1 124 j) := by
  induction r with
  | zero =>
    intro i g m h1 h2; obtain ⟨g, rfl⟩ : ∃ k, g = k + 1 := ⟨g - 1, by omega⟩
    exact ⟨m, by rw [e_M_copies_124_2, br_leT (by omega) (by omega)], rfl, fun _ _ => rfl, fun j a b => by omega, fun _ _ => rfl⟩
  | succ r ih =>
    intro i g m h1 h2; obtain ⟨g, rfl⟩ : ∃ k, g = k + 1 := ⟨g - 1, by omega⟩
    obtain ⟨m', b1, b2, b3, b4, b5⟩ := ih (i + 1) g (am_w m.1 124 i (m.1 124 (3 + i)), m.2) (by omega) (by omega)
    refine ⟨m', ?_, b2, fun c' hc => ?_, fun j x y => ?_, fun j x => ?_⟩
    · rw [e_M_copies_124_2, br_leF (by omega) (by omega), zn_add, br_oiF (by omega) (by omega), br_oiF (by omega) (by omega), zn_cl (by omega), zn_cl (by omega), zn_add, b1]
    · rw [b3 c' hc]; show am_w m.1 124 i (m.1 124 (3 + i)) c' = _; rw [w_ne hc]
    · by_cases e : j = i
      · subst e; rw [b5 j (by omega)]; show am_w m.1 124 j (m.1 124 (3 + j)) 124 j = _; rw [w_at, upd_at]
      · rw [b4 j (by omega) y]; show am_w m.1 124 i (m.1 124 (3 + i)) 124 (3 + j) = _; rw [w_at, upd_ne (by omega)]
    · rw [b5 j (by omega)]; show am_w m.1 124 i (m.1 124 (3 + i)) 124 j = _; rw [w_at, upd_ne (by omega)]
theorem cp_124 {d : Nat} (m : am_M) : ∃ m', am_c (d + 1) y_M_copies [.ref 124, .int (zn 3)] m = some (none, m') ∧ cpd 124 3 m m' := by
  obtain ⟨m', b1, b2, b3, b4, b5⟩ := lcp_124 (d := d) 3 0 29999 m (by omega) (by omega)
  exact ⟨m', by rw [n_M_copies_124, b1], b2, b3, fun j hj => b4 j (by omega) hj⟩
theorem lcp_125 {d : Nat} (r : Nat) : ∀ (i g : Nat) (m : am_M), i + r = 64 → r < g → ∃ m', r_M_copies_125_2 d g (zn 64) (zn i) m = some (none, m') ∧ m'.2 = m.2 ∧ (∀ c', c' ≠ 125 → m'.1 c' = m.1 c') ∧ (∀ j, i ≤ j → j < 64 → m'.1 125 j = m.1 125 (64 + j)) ∧ (∀ j, j < i ∨ 64 ≤ j → m'.1 125 j = m.1 125 j) := by
  induction r with
  | zero =>
    intro i g m h1 h2; obtain ⟨g, rfl⟩ : ∃ k, g = k + 1 := ⟨g - 1, by omega⟩
    exact ⟨m, by rw [e_M_copies_125_2, br_leT (by omega) (by omega)], rfl, fun _ _ => rfl, fun j a b => by omega, fun _ _ => rfl⟩
  | succ r ih =>
    intro i g m h1 h2; obtain ⟨g, rfl⟩ : ∃ k, g = k + 1 := ⟨g - 1, by omega⟩
    obtain ⟨m', b1, b2, b3, b4, b5⟩ := ih (i + 1) g (am_w m.1 125 i (m.1 125 (64 + i)), m.2) (by omega) (by omega)
    refine ⟨m', ?_, b2, fun c' hc => ?_, fun j x y => ?_, fun j x => ?_⟩
    · rw [e_M_copies_125_2, br_leF (by omega) (by omega), zn_add, br_oiF (by omega) (by omega), br_oiF (by omega) (by omega), zn_cl (by omega), zn_cl (by omega), zn_add, b1]
    · rw [b3 c' hc]; show am_w m.1 125 i (m.1 125 (64 + i)) c' = _; rw [w_ne hc]
    · by_cases e : j = i
      · subst e; rw [b5 j (by omega)]; show am_w m.1 125 j (m.1 125 (64 + j)) 125 j = _; rw [w_at, upd_at]
      · rw [b4 j (by omega) y]; show am_w m.1 125 i (m.1 125 (64 + i)) 125 (64 + j) = _; rw [w_at, upd_ne (by omega)]
    · rw [b5 j (by omega)]; show am_w m.1 125 i (m.1 125 (64 + i)) 125 j = _; rw [w_at, upd_ne (by omega)]
theorem cp_125 {d : Nat} (m : am_M) : ∃ m', am_c (d + 1) y_M_copies [.ref 125, .int (zn 64)] m = some (none, m') ∧ cpd 125 64 m m' := by
  obtain ⟨m', b1, b2, b3, b4, b5⟩ := lcp_125 (d := d) 64 0 29999 m (by omega) (by omega)
  exact ⟨m', by rw [n_M_copies_125, b1], b2, b3, fun j hj => b4 j (by omega) hj⟩
theorem lcp_126 {d : Nat} (r : Nat) : ∀ (i g : Nat) (m : am_M), i + r = 64 → r < g → ∃ m', r_M_copies_126_2 d g (zn 64) (zn i) m = some (none, m') ∧ m'.2 = m.2 ∧ (∀ c', c' ≠ 126 → m'.1 c' = m.1 c') ∧ (∀ j, i ≤ j → j < 64 → m'.1 126 j = m.1 126 (64 + j)) ∧ (∀ j, j < i ∨ 64 ≤ j → m'.1 126 j = m.1 126 j) := by
  induction r with
  | zero =>
    intro i g m h1 h2; obtain ⟨g, rfl⟩ : ∃ k, g = k + 1 := ⟨g - 1, by omega⟩
    exact ⟨m, by rw [e_M_copies_126_2, br_leT (by omega) (by omega)], rfl, fun _ _ => rfl, fun j a b => by omega, fun _ _ => rfl⟩
  | succ r ih =>
    intro i g m h1 h2; obtain ⟨g, rfl⟩ : ∃ k, g = k + 1 := ⟨g - 1, by omega⟩
    obtain ⟨m', b1, b2, b3, b4, b5⟩ := ih (i + 1) g (am_w m.1 126 i (m.1 126 (64 + i)), m.2) (by omega) (by omega)
    refine ⟨m', ?_, b2, fun c' hc => ?_, fun j x y => ?_, fun j x => ?_⟩
    · rw [e_M_copies_126_2, br_leF (by omega) (by omega), zn_add, br_oiF (by omega) (by omega), br_oiF (by omega) (by omega), zn_cl (by omega), zn_cl (by omega), zn_add, b1]
    · rw [b3 c' hc]; show am_w m.1 126 i (m.1 126 (64 + i)) c' = _; rw [w_ne hc]
    · by_cases e : j = i
      · subst e; rw [b5 j (by omega)]; show am_w m.1 126 j (m.1 126 (64 + j)) 126 j = _; rw [w_at, upd_at]
      · rw [b4 j (by omega) y]; show am_w m.1 126 i (m.1 126 (64 + i)) 126 (64 + j) = _; rw [w_at, upd_ne (by omega)]
    · rw [b5 j (by omega)]; show am_w m.1 126 i (m.1 126 (64 + i)) 126 j = _; rw [w_at, upd_ne (by omega)]
theorem cp_126 {d : Nat} (m : am_M) : ∃ m', am_c (d + 1) y_M_copies [.ref 126, .int (zn 64)] m = some (none, m') ∧ cpd 126 64 m m' := by
  obtain ⟨m', b1, b2, b3, b4, b5⟩ := lcp_126 (d := d) 64 0 29999 m (by omega) (by omega)
  exact ⟨m', by rw [n_M_copies_126, b1], b2, b3, fun j hj => b4 j (by omega) hj⟩
theorem lcp_127 {d : Nat} (r : Nat) : ∀ (i g : Nat) (m : am_M), i + r = 64 → r < g → ∃ m', r_M_copies_127_2 d g (zn 64) (zn i) m = some (none, m') ∧ m'.2 = m.2 ∧ (∀ c', c' ≠ 127 → m'.1 c' = m.1 c') ∧ (∀ j, i ≤ j → j < 64 → m'.1 127 j = m.1 127 (64 + j)) ∧ (∀ j, j < i ∨ 64 ≤ j → m'.1 127 j = m.1 127 j) := by
  induction r with
  | zero =>
    intro i g m h1 h2; obtain ⟨g, rfl⟩ : ∃ k, g = k + 1 := ⟨g - 1, by omega⟩
    exact ⟨m, by rw [e_M_copies_127_2, br_leT (by omega) (by omega)], rfl, fun _ _ => rfl, fun j a b => by omega, fun _ _ => rfl⟩
  | succ r ih =>
    intro i g m h1 h2; obtain ⟨g, rfl⟩ : ∃ k, g = k + 1 := ⟨g - 1, by omega⟩
    obtain ⟨m', b1, b2, b3, b4, b5⟩ := ih (i + 1) g (am_w m.1 127 i (m.1 127 (64 + i)), m.2) (by omega) (by omega)
    refine ⟨m', ?_, b2, fun c' hc => ?_, fun j x y => ?_, fun j x => ?_⟩
    · rw [e_M_copies_127_2, br_leF (by omega) (by omega), zn_add, br_oiF (by omega) (by omega), br_oiF (by omega) (by omega), zn_cl (by omega), zn_cl (by omega), zn_add, b1]
    · rw [b3 c' hc]; show am_w m.1 127 i (m.1 127 (64 + i)) c' = _; rw [w_ne hc]
    · by_cases e : j = i
      · subst e; rw [b5 j (by omega)]; show am_w m.1 127 j (m.1 127 (64 + j)) 127 j = _; rw [w_at, upd_at]
      · rw [b4 j (by omega) y]; show am_w m.1 127 i (m.1 127 (64 + i)) 127 (64 + j) = _; rw [w_at, upd_ne (by omega)]
    · rw [b5 j (by omega)]; show am_w m.1 127 i (m.1 127 (64 + i)) 127 j = _; rw [w_at, upd_ne (by omega)]
theorem cp_127 {d : Nat} (m : am_M) : ∃ m', am_c (d + 1) y_M_copies [.ref 127, .int (zn 64)] m = some (none, m') ∧ cpd 127 64 m m' := by
  obtain ⟨m', b1, b2, b3, b4, b5⟩ := lcp_127 (d := d) 64 0 29999 m (by omega) (by omega)
  exact ⟨m', by rw [n_M_copies_127, b1], b2, b3, fun j hj => b4 j (by omega) hj⟩
theorem s_cps {X : Nat → Nat} {n : Nat} {T G F : Td} {fg : Nat → Bool} {cn : Nat} {t : Tk} {m : am_M} (W : tW T) (gw : gW G F) (gf : ∀ l, F 3 l = 0) (h : pR X n T G F fg cn t m) : ∃ mC, am_c 7 y_M_keepText [.ref 107] m = am_bV (am_c 6 y_M_begin [.ref 107] mC) (fun m6 => some (none, m6)) ∧ tR T G F mC ∧ (∀ c, c ≤ 106 ∨ c = 108 ∨ c = 109 ∨ 128 ≤ c → mC.1 c = m.1 c) ∧ (∀ i, i < 12 ∨ 15 < i → mC.1 107 i = m.1 107 i) ∧ mC.2 = m.2 := by
  have w1 := W.n; have w2 := W.L; have w3 := W.mn; have w4 := gw.n
  obtain ⟨m0, hm0⟩ : ∃ m0 : am_M, m0 = (am_w (am_w (am_w (am_w m.1 107 12 (zn (T 0 0))) 107 13 (zn (T 0 1))) 107 14 (zn (T 0 4))) 107 15 (zn (F 2 0)), m.2) := ⟨_, rfl⟩
  obtain ⟨m1, a1, l1, f1, g1⟩ := cp_111 (d := 5) m0
  obtain ⟨m2, a2, l2, f2, g2⟩ := cp_112 (d := 5) m1
  obtain ⟨m3, a3, l3, f3, g3⟩ := cp_113 (d := 5) m2
  obtain ⟨m4, a4, l4, f4, g4⟩ := cp_114 (d := 5) m3
  obtain ⟨m5, a5, l5, f5, g5⟩ := cp_115 (d := 5) m4
  obtain ⟨m6, a6, l6, f6, g6⟩ := cp_116 (d := 5) m5
  obtain ⟨m7, a7, l7, f7, g7⟩ := cp_117 (d := 5) m6
  obtain ⟨m8, a8, l8, f8, g8⟩ := cp_118 (d := 5) m7
  obtain ⟨m9, a9, l9, f9, g9⟩ := cp_119 (d := 5) m8
  obtain ⟨m10, a10, l10, f10, g10⟩ := cp_120 (d := 5) m9
  obtain ⟨m11, a11, l11, f11, g11⟩ := cp_121 (d := 5) m10
  obtain ⟨m12, hm12⟩ : ∃ m12 : am_M, m12 = (am_w (am_w (am_w m11.1 122 0 (m11.1 122 3)) 122 1 (m11.1 122 4)) 122 2 (m11.1 122 5), m11.2) := ⟨_, rfl⟩
  have l12 : m12.2 = m11.2 := by rw [hm12]
  have f12 : ∀ c', c' ≠ 122 → m12.1 c' = m11.1 c' := fun c' hc => by rw [hm12]; simp (disch := omega) only [w_ne, w_at, wl_ne, wl_at, wc_ne, wc_at, upd_at, upd_ne, upl_at, upl_ne, cpy_in0, zn_cl, zn_add, zn_mul, zn_sub, zn_pm, br_tt, br_ff, br_ltT, br_ltF, br_leT, br_leF, br_eqT, br_eqF, br_eqs, br_eqm, br_eqm', br_ltm, br_mlt, br_lem, br_mle, br_oiF, br_lgge, br_lgle, br_lggt, br_lglt, br_lgeq, br_zb, br_zb1, bV_s, bI_s, bL_s, zo_n, zo_s]
  have g12 : ∀ j, j < 3 → m12.1 122 j = m11.1 122 (3 + j) := fun j hj => by
    rw [hm12]
    rcases (by omega : j = 0 ∨ j = 1 ∨ j = 2) with q | q | q <;> subst q <;> simp (disch := omega) only [w_ne, w_at, wl_ne, wl_at, wc_ne, wc_at, upd_at, upd_ne, upl_at, upl_ne, cpy_in0, zn_cl, zn_add, zn_mul, zn_sub, zn_pm, br_tt, br_ff, br_ltT, br_ltF, br_leT, br_leF, br_eqT, br_eqF, br_eqs, br_eqm, br_eqm', br_ltm, br_mlt, br_lem, br_mle, br_oiF, br_lgge, br_lgle, br_lggt, br_lglt, br_lgeq, br_zb, br_zb1, bV_s, bI_s, bL_s, zo_n, zo_s]
  obtain ⟨m13, a13, l13, f13, g13⟩ := cp_123 (d := 5) m12
  obtain ⟨m14, a14, l14, f14, g14⟩ := cp_124 (d := 5) m13
  obtain ⟨m15, a15, l15, f15, g15⟩ := cp_125 (d := 5) m14
  obtain ⟨m16, a16, l16, f16, g16⟩ := cp_126 (d := 5) m15
  obtain ⟨m17, a17, l17, f17, g17⟩ := cp_127 (d := 5) m16
  have fr : ∀ c, c ≤ 110 ∨ 128 ≤ c → m17.1 c = m0.1 c := fun c hc => by rw [f17 c (by omega), f16 c (by omega), f15 c (by omega), f14 c (by omega), f13 c (by omega), f12 c (by omega), f11 c (by omega), f10 c (by omega), f9 c (by omega), f8 c (by omega), f7 c (by omega), f6 c (by omega), f5 c (by omega), f4 c (by omega), f3 c (by omega), f2 c (by omega), f1 c (by omega)]
  have v111 : ∀ j, j < 3 → m17.1 111 j = m.1 111 (3 + j) := fun j hj => by
    rw [f17 111 (by omega), f16 111 (by omega), f15 111 (by omega), f14 111 (by omega), f13 111 (by omega), f12 111 (by omega), f11 111 (by omega), f10 111 (by omega), f9 111 (by omega), f8 111 (by omega), f7 111 (by omega), f6 111 (by omega), f5 111 (by omega), f4 111 (by omega), f3 111 (by omega), f2 111 (by omega), g1 j hj, hm0]; simp (disch := omega) only [w_ne, w_at, wl_ne, wl_at, wc_ne, wc_at, upd_at, upd_ne, upl_at, upl_ne, cpy_in0, zn_cl, zn_add, zn_mul, zn_sub, zn_pm, br_tt, br_ff, br_ltT, br_ltF, br_leT, br_leF, br_eqT, br_eqF, br_eqs, br_eqm, br_eqm', br_ltm, br_mlt, br_lem, br_mle, br_oiF, br_lgge, br_lgle, br_lggt, br_lglt, br_lgeq, br_zb, br_zb1, bV_s, bI_s, bL_s, zo_n, zo_s]
  have v112 : ∀ j, j < 5 → m17.1 112 j = m.1 112 (5 + j) := fun j hj => by
    rw [f17 112 (by omega), f16 112 (by omega), f15 112 (by omega), f14 112 (by omega), f13 112 (by omega), f12 112 (by omega), f11 112 (by omega), f10 112 (by omega), f9 112 (by omega), f8 112 (by omega), f7 112 (by omega), f6 112 (by omega), f5 112 (by omega), f4 112 (by omega), f3 112 (by omega), g2 j hj, f1 112 (by omega), hm0]; simp (disch := omega) only [w_ne, w_at, wl_ne, wl_at, wc_ne, wc_at, upd_at, upd_ne, upl_at, upl_ne, cpy_in0, zn_cl, zn_add, zn_mul, zn_sub, zn_pm, br_tt, br_ff, br_ltT, br_ltF, br_leT, br_leF, br_eqT, br_eqF, br_eqs, br_eqm, br_eqm', br_ltm, br_mlt, br_lem, br_mle, br_oiF, br_lgge, br_lgle, br_lggt, br_lglt, br_lgeq, br_zb, br_zb1, bV_s, bI_s, bL_s, zo_n, zo_s]
  have v113 : ∀ j, j < 5 → m17.1 113 j = m.1 113 (5 + j) := fun j hj => by
    rw [f17 113 (by omega), f16 113 (by omega), f15 113 (by omega), f14 113 (by omega), f13 113 (by omega), f12 113 (by omega), f11 113 (by omega), f10 113 (by omega), f9 113 (by omega), f8 113 (by omega), f7 113 (by omega), f6 113 (by omega), f5 113 (by omega), f4 113 (by omega), g3 j hj, f2 113 (by omega), f1 113 (by omega), hm0]; simp (disch := omega) only [w_ne, w_at, wl_ne, wl_at, wc_ne, wc_at, upd_at, upd_ne, upl_at, upl_ne, cpy_in0, zn_cl, zn_add, zn_mul, zn_sub, zn_pm, br_tt, br_ff, br_ltT, br_ltF, br_leT, br_leF, br_eqT, br_eqF, br_eqs, br_eqm, br_eqm', br_ltm, br_mlt, br_lem, br_mle, br_oiF, br_lgge, br_lgle, br_lggt, br_lglt, br_lgeq, br_zb, br_zb1, bV_s, bI_s, bL_s, zo_n, zo_s]
  have v114 : ∀ j, j < 5 → m17.1 114 j = m.1 114 (5 + j) := fun j hj => by
    rw [f17 114 (by omega), f16 114 (by omega), f15 114 (by omega), f14 114 (by omega), f13 114 (by omega), f12 114 (by omega), f11 114 (by omega), f10 114 (by omega), f9 114 (by omega), f8 114 (by omega), f7 114 (by omega), f6 114 (by omega), f5 114 (by omega), g4 j hj, f3 114 (by omega), f2 114 (by omega), f1 114 (by omega), hm0]; simp (disch := omega) only [w_ne, w_at, wl_ne, wl_at, wc_ne, wc_at, upd_at, upd_ne, upl_at, upl_ne, cpy_in0, zn_cl, zn_add, zn_mul, zn_sub, zn_pm, br_tt, br_ff, br_ltT, br_ltF, br_leT, br_leF, br_eqT, br_eqF, br_eqs, br_eqm, br_eqm', br_ltm, br_mlt, br_lem, br_mle, br_oiF, br_lgge, br_lgle, br_lggt, br_lglt, br_lgeq, br_zb, br_zb1, bV_s, bI_s, bL_s, zo_n, zo_s]
  have v115 : ∀ j, j < 5 → m17.1 115 j = m.1 115 (5 + j) := fun j hj => by
    rw [f17 115 (by omega), f16 115 (by omega), f15 115 (by omega), f14 115 (by omega), f13 115 (by omega), f12 115 (by omega), f11 115 (by omega), f10 115 (by omega), f9 115 (by omega), f8 115 (by omega), f7 115 (by omega), f6 115 (by omega), g5 j hj, f4 115 (by omega), f3 115 (by omega), f2 115 (by omega), f1 115 (by omega), hm0]; simp (disch := omega) only [w_ne, w_at, wl_ne, wl_at, wc_ne, wc_at, upd_at, upd_ne, upl_at, upl_ne, cpy_in0, zn_cl, zn_add, zn_mul, zn_sub, zn_pm, br_tt, br_ff, br_ltT, br_ltF, br_leT, br_leF, br_eqT, br_eqF, br_eqs, br_eqm, br_eqm', br_ltm, br_mlt, br_lem, br_mle, br_oiF, br_lgge, br_lgle, br_lggt, br_lglt, br_lgeq, br_zb, br_zb1, bV_s, bI_s, bL_s, zo_n, zo_s]
  have v116 : ∀ j, j < 5 → m17.1 116 j = m.1 116 (5 + j) := fun j hj => by
    rw [f17 116 (by omega), f16 116 (by omega), f15 116 (by omega), f14 116 (by omega), f13 116 (by omega), f12 116 (by omega), f11 116 (by omega), f10 116 (by omega), f9 116 (by omega), f8 116 (by omega), f7 116 (by omega), g6 j hj, f5 116 (by omega), f4 116 (by omega), f3 116 (by omega), f2 116 (by omega), f1 116 (by omega), hm0]; simp (disch := omega) only [w_ne, w_at, wl_ne, wl_at, wc_ne, wc_at, upd_at, upd_ne, upl_at, upl_ne, cpy_in0, zn_cl, zn_add, zn_mul, zn_sub, zn_pm, br_tt, br_ff, br_ltT, br_ltF, br_leT, br_leF, br_eqT, br_eqF, br_eqs, br_eqm, br_eqm', br_ltm, br_mlt, br_lem, br_mle, br_oiF, br_lgge, br_lgle, br_lggt, br_lglt, br_lgeq, br_zb, br_zb1, bV_s, bI_s, bL_s, zo_n, zo_s]
  have v117 : ∀ j, j < 5 → m17.1 117 j = m.1 117 (5 + j) := fun j hj => by
    rw [f17 117 (by omega), f16 117 (by omega), f15 117 (by omega), f14 117 (by omega), f13 117 (by omega), f12 117 (by omega), f11 117 (by omega), f10 117 (by omega), f9 117 (by omega), f8 117 (by omega), g7 j hj, f6 117 (by omega), f5 117 (by omega), f4 117 (by omega), f3 117 (by omega), f2 117 (by omega), f1 117 (by omega), hm0]; simp (disch := omega) only [w_ne, w_at, wl_ne, wl_at, wc_ne, wc_at, upd_at, upd_ne, upl_at, upl_ne, cpy_in0, zn_cl, zn_add, zn_mul, zn_sub, zn_pm, br_tt, br_ff, br_ltT, br_ltF, br_leT, br_leF, br_eqT, br_eqF, br_eqs, br_eqm, br_eqm', br_ltm, br_mlt, br_lem, br_mle, br_oiF, br_lgge, br_lgle, br_lggt, br_lglt, br_lgeq, br_zb, br_zb1, bV_s, bI_s, bL_s, zo_n, zo_s]
  have v118 : ∀ j, j < 5 → m17.1 118 j = m.1 118 (5 + j) := fun j hj => by
    rw [f17 118 (by omega), f16 118 (by omega), f15 118 (by omega), f14 118 (by omega), f13 118 (by omega), f12 118 (by omega), f11 118 (by omega), f10 118 (by omega), f9 118 (by omega), g8 j hj, f7 118 (by omega), f6 118 (by omega), f5 118 (by omega), f4 118 (by omega), f3 118 (by omega), f2 118 (by omega), f1 118 (by omega), hm0]; simp (disch := omega) only [w_ne, w_at, wl_ne, wl_at, wc_ne, wc_at, upd_at, upd_ne, upl_at, upl_ne, cpy_in0, zn_cl, zn_add, zn_mul, zn_sub, zn_pm, br_tt, br_ff, br_ltT, br_ltF, br_leT, br_leF, br_eqT, br_eqF, br_eqs, br_eqm, br_eqm', br_ltm, br_mlt, br_lem, br_mle, br_oiF, br_lgge, br_lgle, br_lggt, br_lglt, br_lgeq, br_zb, br_zb1, bV_s, bI_s, bL_s, zo_n, zo_s]
  have v119 : ∀ j, j < 5 → m17.1 119 j = m.1 119 (5 + j) := fun j hj => by
    rw [f17 119 (by omega), f16 119 (by omega), f15 119 (by omega), f14 119 (by omega), f13 119 (by omega), f12 119 (by omega), f11 119 (by omega), f10 119 (by omega), g9 j hj, f8 119 (by omega), f7 119 (by omega), f6 119 (by omega), f5 119 (by omega), f4 119 (by omega), f3 119 (by omega), f2 119 (by omega), f1 119 (by omega), hm0]; simp (disch := omega) only [w_ne, w_at, wl_ne, wl_at, wc_ne, wc_at, upd_at, upd_ne, upl_at, upl_ne, cpy_in0, zn_cl, zn_add, zn_mul, zn_sub, zn_pm, br_tt, br_ff, br_ltT, br_ltF, br_leT, br_leF, br_eqT, br_eqF, br_eqs, br_eqm, br_eqm', br_ltm, br_mlt, br_lem, br_mle, br_oiF, br_lgge, br_lgle, br_lggt, br_lglt, br_lgeq, br_zb, br_zb1, bV_s, bI_s, bL_s, zo_n, zo_s]
  have v120 : ∀ j, j < 10 → m17.1 120 j = m.1 120 (10 + j) := fun j hj => by
    rw [f17 120 (by omega), f16 120 (by omega), f15 120 (by omega), f14 120 (by omega), f13 120 (by omega), f12 120 (by omega), f11 120 (by omega), g10 j hj, f9 120 (by omega), f8 120 (by omega), f7 120 (by omega), f6 120 (by omega), f5 120 (by omega), f4 120 (by omega), f3 120 (by omega), f2 120 (by omega), f1 120 (by omega), hm0]; simp (disch := omega) only [w_ne, w_at, wl_ne, wl_at, wc_ne, wc_at, upd_at, upd_ne, upl_at, upl_ne, cpy_in0, zn_cl, zn_add, zn_mul, zn_sub, zn_pm, br_tt, br_ff, br_ltT, br_ltF, br_leT, br_leF, br_eqT, br_eqF, br_eqs, br_eqm, br_eqm', br_ltm, br_mlt, br_lem, br_mle, br_oiF, br_lgge, br_lgle, br_lggt, br_lglt, br_lgeq, br_zb, br_zb1, bV_s, bI_s, bL_s, zo_n, zo_s]
  have v121 : ∀ j, j < 10 → m17.1 121 j = m.1 121 (10 + j) := fun j hj => by
    rw [f17 121 (by omega), f16 121 (by omega), f15 121 (by omega), f14 121 (by omega), f13 121 (by omega), f12 121 (by omega), g11 j hj, f10 121 (by omega), f9 121 (by omega), f8 121 (by omega), f7 121 (by omega), f6 121 (by omega), f5 121 (by omega), f4 121 (by omega), f3 121 (by omega), f2 121 (by omega), f1 121 (by omega), hm0]; simp (disch := omega) only [w_ne, w_at, wl_ne, wl_at, wc_ne, wc_at, upd_at, upd_ne, upl_at, upl_ne, cpy_in0, zn_cl, zn_add, zn_mul, zn_sub, zn_pm, br_tt, br_ff, br_ltT, br_ltF, br_leT, br_leF, br_eqT, br_eqF, br_eqs, br_eqm, br_eqm', br_ltm, br_mlt, br_lem, br_mle, br_oiF, br_lgge, br_lgle, br_lggt, br_lglt, br_lgeq, br_zb, br_zb1, bV_s, bI_s, bL_s, zo_n, zo_s]
  have v122 : ∀ j, j < 3 → m17.1 122 j = m.1 122 (3 + j) := fun j hj => by
    rw [f17 122 (by omega), f16 122 (by omega), f15 122 (by omega), f14 122 (by omega), f13 122 (by omega), g12 j hj, f11 122 (by omega), f10 122 (by omega), f9 122 (by omega), f8 122 (by omega), f7 122 (by omega), f6 122 (by omega), f5 122 (by omega), f4 122 (by omega), f3 122 (by omega), f2 122 (by omega), f1 122 (by omega), hm0]; simp (disch := omega) only [w_ne, w_at, wl_ne, wl_at, wc_ne, wc_at, upd_at, upd_ne, upl_at, upl_ne, cpy_in0, zn_cl, zn_add, zn_mul, zn_sub, zn_pm, br_tt, br_ff, br_ltT, br_ltF, br_leT, br_leF, br_eqT, br_eqF, br_eqs, br_eqm, br_eqm', br_ltm, br_mlt, br_lem, br_mle, br_oiF, br_lgge, br_lgle, br_lggt, br_lglt, br_lgeq, br_zb, br_zb1, bV_s, bI_s, bL_s, zo_n, zo_s]
  have v123 : ∀ j, j < 3 → m17.1 123 j = m.1 123 (3 + j) := fun j hj => by
    rw [f17 123 (by omega), f16 123 (by omega), f15 123 (by omega), f14 123 (by omega), g13 j hj, f12 123 (by omega), f11 123 (by omega), f10 123 (by omega), f9 123 (by omega), f8 123 (by omega), f7 123 (by omega), f6 123 (by omega), f5 123 (by omega), f4 123 (by omega), f3 123 (by omega), f2 123 (by omega), f1 123 (by omega), hm0]; simp (disch := omega) only [w_ne, w_at, wl_ne, wl_at, wc_ne, wc_at, upd_at, upd_ne, upl_at, upl_ne, cpy_in0, zn_cl, zn_add, zn_mul, zn_sub, zn_pm, br_tt, br_ff, br_ltT, br_ltF, br_leT, br_leF, br_eqT, br_eqF, br_eqs, br_eqm, br_eqm', br_ltm, br_mlt, br_lem, br_mle, br_oiF, br_lgge, br_lgle, br_lggt, br_lglt, br_lgeq, br_zb, br_zb1, bV_s, bI_s, bL_s, zo_n, zo_s]
  have v124 : ∀ j, j < 3 → m17.1 124 j = m.1 124 (3 + j) := fun j hj => by
    rw [f17 124 (by omega), f16 124 (by omega), f15 124 (by omega), g14 j hj, f13 124 (by omega), f12 124 (by omega), f11 124 (by omega), f10 124 (by omega), f9 124 (by omega), f8 124 (by omega), f7 124 (by omega), f6 124 (by omega), f5 124 (by omega), f4 124 (by omega), f3 124 (by omega), f2 124 (by omega), f1 124 (by omega), hm0]; simp (disch := omega) only [w_ne, w_at, wl_ne, wl_at, wc_ne, wc_at, upd_at, upd_ne, upl_at, upl_ne, cpy_in0, zn_cl, zn_add, zn_mul, zn_sub, zn_pm, br_tt, br_ff, br_ltT, br_ltF, br_leT, br_leF, br_eqT, br_eqF, br_eqs, br_eqm, br_eqm', br_ltm, br_mlt, br_lem, br_mle, br_oiF, br_lgge, br_lgle, br_lggt, br_lglt, br_lgeq, br_zb, br_zb1, bV_s, bI_s, bL_s, zo_n, zo_s]
  have v125 : ∀ j, j < 64 → m17.1 125 j = m.1 125 (64 + j) := fun j hj => by
    rw [f17 125 (by omega), f16 125 (by omega), g15 j hj, f14 125 (by omega), f13 125 (by omega), f12 125 (by omega), f11 125 (by omega), f10 125 (by omega), f9 125 (by omega), f8 125 (by omega), f7 125 (by omega), f6 125 (by omega), f5 125 (by omega), f4 125 (by omega), f3 125 (by omega), f2 125 (by omega), f1 125 (by omega), hm0]; simp (disch := omega) only [w_ne, w_at, wl_ne, wl_at, wc_ne, wc_at, upd_at, upd_ne, upl_at, upl_ne, cpy_in0, zn_cl, zn_add, zn_mul, zn_sub, zn_pm, br_tt, br_ff, br_ltT, br_ltF, br_leT, br_leF, br_eqT, br_eqF, br_eqs, br_eqm, br_eqm', br_ltm, br_mlt, br_lem, br_mle, br_oiF, br_lgge, br_lgle, br_lggt, br_lglt, br_lgeq, br_zb, br_zb1, bV_s, bI_s, bL_s, zo_n, zo_s]
  have v126 : ∀ j, j < 64 → m17.1 126 j = m.1 126 (64 + j) := fun j hj => by
    rw [f17 126 (by omega), g16 j hj, f15 126 (by omega), f14 126 (by omega), f13 126 (by omega), f12 126 (by omega), f11 126 (by omega), f10 126 (by omega), f9 126 (by omega), f8 126 (by omega), f7 126 (by omega), f6 126 (by omega), f5 126 (by omega), f4 126 (by omega), f3 126 (by omega), f2 126 (by omega), f1 126 (by omega), hm0]; simp (disch := omega) only [w_ne, w_at, wl_ne, wl_at, wc_ne, wc_at, upd_at, upd_ne, upl_at, upl_ne, cpy_in0, zn_cl, zn_add, zn_mul, zn_sub, zn_pm, br_tt, br_ff, br_ltT, br_ltF, br_leT, br_leF, br_eqT, br_eqF, br_eqs, br_eqm, br_eqm', br_ltm, br_mlt, br_lem, br_mle, br_oiF, br_lgge, br_lgle, br_lggt, br_lglt, br_lgeq, br_zb, br_zb1, bV_s, bI_s, bL_s, zo_n, zo_s]
  have v127 : ∀ j, j < 64 → m17.1 127 j = m.1 127 (64 + j) := fun j hj => by
    rw [g17 j hj, f16 127 (by omega), f15 127 (by omega), f14 127 (by omega), f13 127 (by omega), f12 127 (by omega), f11 127 (by omega), f10 127 (by omega), f9 127 (by omega), f8 127 (by omega), f7 127 (by omega), f6 127 (by omega), f5 127 (by omega), f4 127 (by omega), f3 127 (by omega), f2 127 (by omega), f1 127 (by omega), hm0]; simp (disch := omega) only [w_ne, w_at, wl_ne, wl_at, wc_ne, wc_at, upd_at, upd_ne, upl_at, upl_ne, cpy_in0, zn_cl, zn_add, zn_mul, zn_sub, zn_pm, br_tt, br_ff, br_ltT, br_ltF, br_leT, br_leF, br_eqT, br_eqF, br_eqs, br_eqm, br_eqm', br_ltm, br_mlt, br_lem, br_mle, br_oiF, br_lgge, br_lgle, br_lggt, br_lglt, br_lgeq, br_zb, br_zb1, bV_s, bI_s, bL_s, zo_n, zo_s]
  have hl : m17.2 = m.2 := by rw [l17, l16, l15, l14, l13, l12, l11, l10, l9, l8, l7, l6, l5, l4, l3, l2, l1, hm0]
  have fz : ∀ l, l < 3 → decide (F 0 l < F 1 l ∨ F 3 l = 1) = decide (F 0 l < F 1 l) := fun l _ => by
    rw [gf l]
    by_cases q : F 0 l < F 1 l
    · rw [decide_eq_true q, decide_eq_true (Or.inl q)]
    · rw [decide_eq_false q, decide_eq_false (fun z => by rcases z with z | z; (· exact q z); (· omega))]
  refine ⟨m17, ?_, ⟨?_, ?_, ?_, ?_, by rw [v111 0 (by omega)]; exact h.rl, by rw [v111 1 (by omega)]; exact h.fo, by rw [v111 2 (by omega)]; exact h.sd, fun i hi => by rw [v112 i (by omega)]; exact h.le i hi, fun i hi => by rw [v113 i (by omega)]; exact h.pl i hi, fun i hi => by rw [v114 i (by omega)]; exact h.sz i hi, fun i hi => by rw [v115 i (by omega)]; exact h.sh i hi, fun i hi => by rw [v116 i (by omega)]; exact h.cm i hi, fun i hi => by rw [v117 i (by omega)]; exact h.hw i hi, fun i hi => by rw [v118 i (by omega)]; exact h.hu i hi, fun i hi => by rw [v119 i (by omega)]; exact h.rc i hi, fun i hi => by rw [v120 i (by omega), v121 i (by omega)]; exact h.ms i hi, ⟨fun j hj => by rw [v125 j (by omega)]; exact h.k0 j hj, fun j hj => by rw [v126 j (by omega)]; exact h.k1 j hj, fun j hj q => by rw [v127 j (by omega)]; exact h.k2 j hj q, fun l hl => by rw [v122 l hl, h.tl l hl, fz l hl], fun l hl q => ?_⟩⟩, fun c hc => ?_, fun i hi => ?_, hl⟩
  · have e0 : m0 = (am_w (am_w (am_w (am_w m.1 107 12 (m.1 107 16)) 107 13 (m.1 107 17)) 107 14 (m.1 107 18)) 107 15 (m.1 107 19), m.2) := by rw [hm0, h.nt, h.nl, h.nm, h.kn]
    rw [n_M_keepText, ← e0, a1, bV_s, a2, bV_s, a3, bV_s, a4, bV_s, a5, bV_s, a6, bV_s, a7, bV_s, a8, bV_s, a9, bV_s, a10, bV_s, a11, bV_s]
    have nz : ∀ j, j < 3 → vp_nar .boolean (m11.1 122 (3 + j)) = m11.1 122 (3 + j) := fun j hj => by
      have q : m11.1 122 (3 + j) = m.1 122 (3 + j) := by rw [f11 122 (by omega), f10 122 (by omega), f9 122 (by omega), f8 122 (by omega), f7 122 (by omega), f6 122 (by omega), f5 122 (by omega), f4 122 (by omega), f3 122 (by omega), f2 122 (by omega), f1 122 (by omega), hm0]; simp (disch := omega) only [w_ne, w_at, wl_ne, wl_at, wc_ne, wc_at, upd_at, upd_ne, upl_at, upl_ne, cpy_in0, zn_cl, zn_add, zn_mul, zn_sub, zn_pm, br_tt, br_ff, br_ltT, br_ltF, br_leT, br_leF, br_eqT, br_eqF, br_eqs, br_eqm, br_eqm', br_ltm, br_mlt, br_lem, br_mle, br_oiF, br_lgge, br_lgle, br_lggt, br_lglt, br_lgeq, br_zb, br_zb1, bV_s, bI_s, bL_s, zo_n, zo_s]
      rw [q, h.tl j hj]
      cases decide (F 0 j < F 1 j ∨ F 3 j = 1)
      · exact nar_0
      · exact nar_1
    have n0 := nz 0 (by omega); have n1 := nz 1 (by omega); have n2 := nz 2 (by omega)
    have E : r_M_keepText_124 6 29999 (zn 0) m11 = r_M_keepText_124 6 29996 (zn 3) m12 := by
      rw [e_M_keepText_124 6 29998, br_leF (by omega) (by omega), zn_add, br_oiF (by omega) (by omega), br_oiF (by omega) (by omega), zn_cl (by omega), zn_cl (by omega), n0, zn_add, e_M_keepText_124 6 29997, br_leF (by omega) (by omega), zn_add, br_oiF (by omega) (by omega), br_oiF (by omega) (by omega), zn_cl (by omega), zn_cl (by omega), zn_add]
      have z1 : (am_w m11.1 122 0 (m11.1 122 (3 + 0)), m11.2).1 122 (3 + 1) = m11.1 122 (3 + 1) := by simp (disch := omega) only [w_ne, w_at, wl_ne, wl_at, wc_ne, wc_at, upd_at, upd_ne, upl_at, upl_ne, cpy_in0, zn_cl, zn_add, zn_mul, zn_sub, zn_pm, br_tt, br_ff, br_ltT, br_ltF, br_leT, br_leF, br_eqT, br_eqF, br_eqs, br_eqm, br_eqm', br_ltm, br_mlt, br_lem, br_mle, br_oiF, br_lgge, br_lgle, br_lggt, br_lglt, br_lgeq, br_zb, br_zb1, bV_s, bI_s, bL_s, zo_n, zo_s]
      rw [z1, n1, e_M_keepText_124 6 29996, br_leF (by omega) (by omega), zn_add, br_oiF (by omega) (by omega), br_oiF (by omega) (by omega), zn_cl (by omega), zn_cl (by omega), zn_add]
      have z2 : (am_w (am_w m11.1 122 0 (m11.1 122 (3 + 0))) 122 (0 + 1) (m11.1 122 (3 + 1)), m11.2).1 122 (3 + (0 + 1 + 1)) = m11.1 122 (3 + 2) := by simp (disch := omega) only [w_ne, w_at, wl_ne, wl_at, wc_ne, wc_at, upd_at, upd_ne, upl_at, upl_ne, cpy_in0, zn_cl, zn_add, zn_mul, zn_sub, zn_pm, br_tt, br_ff, br_ltT, br_ltF, br_leT, br_leF, br_eqT, br_eqF, br_eqs, br_eqm, br_eqm', br_ltm, br_mlt, br_lem, br_mle, br_oiF, br_lgge, br_lgle, br_lggt, br_lglt, br_lgeq, br_zb, br_zb1, bV_s, bI_s, bL_s, zo_n, zo_s]
      rw [z2, n2, hm12]
    rw [E, e_M_keepText_124 6 29995, br_leT (by omega) (by omega), a13, bV_s, a14, bV_s, a15, bV_s, a16, bV_s, a17, bV_s]
  · rw [fr 107 (by omega), hm0]; simp (disch := omega) only [w_ne, w_at, wl_ne, wl_at, wc_ne, wc_at, upd_at, upd_ne, upl_at, upl_ne, cpy_in0, zn_cl, zn_add, zn_mul, zn_sub, zn_pm, br_tt, br_ff, br_ltT, br_ltF, br_leT, br_leF, br_eqT, br_eqF, br_eqs, br_eqm, br_eqm', br_ltm, br_mlt, br_lem, br_mle, br_oiF, br_lgge, br_lgle, br_lggt, br_lglt, br_lgeq, br_zb, br_zb1, bV_s, bI_s, bL_s, zo_n, zo_s]
  · rw [fr 107 (by omega), hm0]; simp (disch := omega) only [w_ne, w_at, wl_ne, wl_at, wc_ne, wc_at, upd_at, upd_ne, upl_at, upl_ne, cpy_in0, zn_cl, zn_add, zn_mul, zn_sub, zn_pm, br_tt, br_ff, br_ltT, br_ltF, br_leT, br_leF, br_eqT, br_eqF, br_eqs, br_eqm, br_eqm', br_ltm, br_mlt, br_lem, br_mle, br_oiF, br_lgge, br_lgle, br_lggt, br_lglt, br_lgeq, br_zb, br_zb1, bV_s, bI_s, bL_s, zo_n, zo_s]
  · rw [fr 107 (by omega), hm0]; simp (disch := omega) only [w_ne, w_at, wl_ne, wl_at, wc_ne, wc_at, upd_at, upd_ne, upl_at, upl_ne, cpy_in0, zn_cl, zn_add, zn_mul, zn_sub, zn_pm, br_tt, br_ff, br_ltT, br_ltF, br_leT, br_leF, br_eqT, br_eqF, br_eqs, br_eqm, br_eqm', br_ltm, br_mlt, br_lem, br_mle, br_oiF, br_lgge, br_lgle, br_lggt, br_lglt, br_lgeq, br_zb, br_zb1, bV_s, bI_s, bL_s, zo_n, zo_s]
  · rw [fr 107 (by omega), hm0]; simp (disch := omega) only [w_ne, w_at, wl_ne, wl_at, wc_ne, wc_at, upd_at, upd_ne, upl_at, upl_ne, cpy_in0, zn_cl, zn_add, zn_mul, zn_sub, zn_pm, br_tt, br_ff, br_ltT, br_ltF, br_leT, br_leF, br_eqT, br_eqF, br_eqs, br_eqm, br_eqm', br_ltm, br_mlt, br_lem, br_mle, br_oiF, br_lgge, br_lgle, br_lggt, br_lglt, br_lgeq, br_zb, br_zb1, bV_s, bI_s, bL_s, zo_n, zo_s]
  · have z := h.fr l hl (Or.inl q)
    rw [if_neg (by rw [gf l]; omega)] at z
    rw [v123 l hl, v124 l hl]
    exact ⟨z.1, z.2 (by rw [gf l]; omega)⟩
  · rw [fr c (by omega), hm0]; simp (disch := omega) only [w_ne, w_at, wl_ne, wl_at, wc_ne, wc_at, upd_at, upd_ne, upl_at, upl_ne, cpy_in0, zn_cl, zn_add, zn_mul, zn_sub, zn_pm, br_tt, br_ff, br_ltT, br_ltF, br_leT, br_leF, br_eqT, br_eqF, br_eqs, br_eqm, br_eqm', br_ltm, br_mlt, br_lem, br_mle, br_oiF, br_lgge, br_lgle, br_lggt, br_lglt, br_lgeq, br_zb, br_zb1, bV_s, bI_s, bL_s, zo_n, zo_s]
  · rw [fr 107 (by omega), hm0]; simp (disch := omega) only [w_ne, w_at, wl_ne, wl_at, wc_ne, wc_at, upd_at, upd_ne, upl_at, upl_ne, cpy_in0, zn_cl, zn_add, zn_mul, zn_sub, zn_pm, br_tt, br_ff, br_ltT, br_ltF, br_leT, br_leF, br_eqT, br_eqF, br_eqs, br_eqm, br_eqm', br_ltm, br_mlt, br_lem, br_mle, br_oiF, br_lgge, br_lgle, br_lggt, br_lglt, br_lgeq, br_zb, br_zb1, bV_s, bI_s, bL_s, zo_n, zo_s]
