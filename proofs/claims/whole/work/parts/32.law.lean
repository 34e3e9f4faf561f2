/-! laws: pure -/
theorem lz : (1000000000000 : Int64).toInt = 1000000000000 := rfl
theorem lnz : (-1000000000000 : Int64).toInt = -1000000000000 := rfl
theorem l0 : (0 : Int64).toInt = 0 := rfl
theorem l1 : (1 : Int64).toInt = 1 := rfl
theorem bd_iff (x : Int64) : bd x ↔ (¬ x < -1000000000000 ∧ x ≤ 1000000000000) := by
  unfold bd; rw [Int64.lt_iff_toInt_lt, Int64.le_iff_toInt_le, lz, lnz]; omega
def jn (q : Nat) (a b : Int64) : Option Int64 :=
  if q = 3 then some (if a = 0 then 0 else if b = 0 then 0 else 1)
  else if q = 4 then some (if a = 0 then (if b = 0 then 0 else 1) else 1)
  else if q = 5 then some (if b ≤ a then 0 else 1)
  else if q = 6 then some (if b < a then 0 else 1)
  else if q = 7 then some (if a = b then 1 else 0)
  else if q = 8 then some (if a = b then 0 else 1)
  else if q = 9 then some (if a < b then 0 else 1)
  else if q = 10 then some (if a ≤ b then 0 else 1)
  else if q = 11 then (if 1000000000000 < a + b then none else if -1000000000000 ≤ a + b then some (a + b) else none)
  else if q = 12 then (if 1000000000000 < a - b then none else if -1000000000000 ≤ a - b then some (a - b) else none)
  else if q = 13 then (if a = 0 then some (a * b) else if am_labs b ≤ 1000000000000 / am_labs a then some (a * b) else none)
  else (if b = 0 then none else some (a / b))
theorem br_el (x y : Int64) (t f : am_R) : am_b (am_el x y) t f = if x = y then t else f := by
  rw [br_if]; unfold am_el; simp only [decide_eq_true_eq]
theorem labs_i {x : Int64} (h : bd x) : (am_labs x).toInt = if 0 ≤ x.toInt then x.toInt else -x.toInt := by
  unfold bd at h
  unfold am_labs
  by_cases e : 0 < x
  · rw [if_pos e]
    rw [Int64.lt_iff_toInt_lt, l0] at e
    rw [if_pos (by omega)]
  · rw [if_neg e]
    rw [Int64.lt_iff_toInt_lt, l0] at e
    rw [Int64.toInt_neg, Int.bmod_eq_of_le (by omega) (by omega)]
    by_cases e1 : 0 ≤ x.toInt
    · rw [if_pos e1]; omega
    · rw [if_neg e1]
theorem i64_ne {x : Int64} (h : x ≠ 0) : x.toInt ≠ 0 := fun e => h (Int64.toInt_inj.mp (by rw [e, l0]))
theorem bd_mul {a b : Int64} (ha : bd a) (hb : bd b) (h : a = 0 ∨ am_labs b ≤ 1000000000000 / am_labs a) : bd (a * b) := by
  by_cases e : a = 0
  · rw [e, Int64.zero_mul]; unfold bd; rw [l0]; omega
  · have h1 : am_labs b ≤ 1000000000000 / am_labs a := by
      rcases h with h | h
      · exact absurd h e
      · exact h
    have e1 := i64_ne e
    have la := labs_i ha; have lb := labs_i hb
    rw [Int64.le_iff_toInt_le, Int64.toInt_div, lz, la, lb] at h1
    unfold bd at ha hb ⊢
    obtain ⟨A, hA⟩ : ∃ A : Nat, (if 0 ≤ a.toInt then a.toInt else -a.toInt) = A := ⟨(if 0 ≤ a.toInt then a.toInt else -a.toInt).toNat, by split <;> omega⟩
    obtain ⟨B, hB⟩ : ∃ B : Nat, (if 0 ≤ b.toInt then b.toInt else -b.toInt) = B := ⟨(if 0 ≤ b.toInt then b.toInt else -b.toInt).toNat, by split <;> omega⟩
    rw [hA, hB] at h1
    have hA0 : 0 < A := by split at hA <;> omega
    have hAM : (A : Int) ≤ 1000000000000 := by split at hA <;> omega
    have hq : ((1000000000000 : Int).tdiv (A : Int)) = ((1000000000000 / A : Nat) : Int) := by
      rw [Int.tdiv_eq_ediv_of_nonneg (by omega)]; rfl
    have hq2 : 1000000000000 / A ≤ 1000000000000 := Nat.div_le_self _ _
    have h2 : B * A ≤ 1000000000000 := by
      refine (Nat.le_div_iff_mul_le hA0).mp ?_
      rw [hq] at h1
      generalize 1000000000000 / A = Q at h1 hq2 ⊢
      rw [Int.bmod_eq_of_le (by omega) (by omega)] at h1
      omega
    have h3 : (a.toInt * b.toInt).natAbs = A * B := by
      rw [Int.natAbs_mul]; congr 1
      · split at hA <;> omega
      · split at hB <;> omega
    rw [Nat.mul_comm] at h2
    rw [Int64.toInt_mul, Int.bmod_eq_of_le (by omega) (by omega)]
    omega
theorem bd_div {a b : Int64} (ha : bd a) (hb : b ≠ 0) : bd (a / b) := by
  have e1 := i64_ne hb
  unfold bd at ha ⊢
  have h1 : (a.toInt.tdiv b.toInt).natAbs ≤ a.toInt.natAbs := Int.natAbs_tdiv_le_natAbs _ _
  rw [Int64.toInt_div, Int.bmod_eq_of_le (by omega) (by omega)]
  omega
theorem bd01 {x : Int64} (h : x = 0 ∨ x = 1) : bd x := by
  rcases h with h | h
  · rw [h]; unfold bd; rw [l0]; omega
  · rw [h]; unfold bd; rw [l1]; omega
theorem jn_bd {q : Nat} {a b x : Int64} (ha : bd a) (hb : bd b) (h : jn q a b = some x) : bd x := by
  unfold jn at h
  by_cases h3 : q = 3
  · rw [if_pos h3] at h; injection h with h; subst h; apply bd01; split <;> (try split) <;> simp
  rw [if_neg h3] at h
  by_cases h4 : q = 4
  · rw [if_pos h4] at h; injection h with h; subst h; apply bd01; split <;> (try split) <;> simp
  rw [if_neg h4] at h
  by_cases h5 : q = 5
  · rw [if_pos h5] at h; injection h with h; subst h; apply bd01; split <;> (try split) <;> simp
  rw [if_neg h5] at h
  by_cases h6 : q = 6
  · rw [if_pos h6] at h; injection h with h; subst h; apply bd01; split <;> (try split) <;> simp
  rw [if_neg h6] at h
  by_cases h7 : q = 7
  · rw [if_pos h7] at h; injection h with h; subst h; apply bd01; split <;> (try split) <;> simp
  rw [if_neg h7] at h
  by_cases h8 : q = 8
  · rw [if_pos h8] at h; injection h with h; subst h; apply bd01; split <;> (try split) <;> simp
  rw [if_neg h8] at h
  by_cases h9 : q = 9
  · rw [if_pos h9] at h; injection h with h; subst h; apply bd01; split <;> (try split) <;> simp
  rw [if_neg h9] at h
  by_cases h10 : q = 10
  · rw [if_pos h10] at h; injection h with h; subst h; apply bd01; split <;> (try split) <;> simp
  rw [if_neg h10] at h
  by_cases h11 : q = 11
  · rw [if_pos h11] at h
    by_cases g1 : 1000000000000 < a + b
    · rw [if_pos g1] at h; cases h
    · rw [if_neg g1] at h
      by_cases g2 : -1000000000000 ≤ a + b
      · rw [if_pos g2] at h; injection h with h; subst h; rw [bd_iff]; exact ⟨Int64.not_lt.mpr g2, Int64.not_lt.mp g1⟩
      · rw [if_neg g2] at h; cases h
  rw [if_neg h11] at h
  by_cases h12 : q = 12
  · rw [if_pos h12] at h
    by_cases g1 : 1000000000000 < a - b
    · rw [if_pos g1] at h; cases h
    · rw [if_neg g1] at h
      by_cases g2 : -1000000000000 ≤ a - b
      · rw [if_pos g2] at h; injection h with h; subst h; rw [bd_iff]; exact ⟨Int64.not_lt.mpr g2, Int64.not_lt.mp g1⟩
      · rw [if_neg g2] at h; cases h
  rw [if_neg h12] at h
  by_cases h13 : q = 13
  · rw [if_pos h13] at h
    by_cases g1 : a = 0
    · rw [if_pos g1] at h; injection h with h; subst h; exact bd_mul ha hb (Or.inl g1)
    · rw [if_neg g1] at h
      by_cases g2 : am_labs b ≤ 1000000000000 / am_labs a
      · rw [if_pos g2] at h; injection h with h; subst h; exact bd_mul ha hb (Or.inr g2)
      · rw [if_neg g2] at h; cases h
  rw [if_neg h13] at h
  by_cases g1 : b = 0
  · rw [if_pos g1] at h; cases h
  · rw [if_neg g1] at h; injection h with h; subst h; exact bd_div ha g1
/-- the kind of a knot in the class -/
def kcl (q p : Nat) : Nat := if q = 0 then 26 else if q = 1 then 18 + p else if q = 2 then 17 else if q = 3 then 16 else if q = 4 then 15 else q + 25
theorem bd_lmin : ¬ bd lmin := by
  have e : lmin.toInt = -9223372036854775808 := rfl
  unfold bd; rw [e]; omega
theorem s_join {d q : Nat} {a b : Int64} {m : am_M} (h3 : 3 ≤ q) (h14 : q ≤ 14) (ha : bd a) (hb : bd b) : ∃ y, am_c (d + 1) y_Laws_join [.int (zn (kcl q 0)), .long a, .long b] m = some (some (.long y), m) ∧ ((jn q a b = some y ∧ bd y) ∨ (jn q a b = none ∧ ¬ bd y)) := by
  rw [n_Laws_join]
  have ok : ∀ y, jn q a b = some y → (jn q a b = some y ∧ bd y) ∨ (jn q a b = none ∧ ¬ bd y) := fun y h => Or.inl ⟨h, jn_bd ha hb h⟩
  by_cases q3 : q = 3
  · subst q3
    rw [show kcl 3 0 = 16 from rfl]
    simp (disch := omega) only [↓br_eqT, ↓br_eqF, br_lgge, br_lgle, br_lggt, br_lglt, br_lgeq, br_el]
    by_cases g1 : a = 0
    · by_cases g2 : b = 0
      · simp only [if_pos g1, if_pos g2]; exact ⟨_, rfl, ok _ (by unfold jn; simp [g1, g2])⟩
      · simp only [if_pos g1, if_neg g2]; exact ⟨_, rfl, ok _ (by unfold jn; simp [g1, g2])⟩
    · by_cases g2 : b = 0
      · simp only [if_neg g1, if_pos g2]; exact ⟨_, rfl, ok _ (by unfold jn; simp [g1, g2])⟩
      · simp only [if_neg g1, if_neg g2]; exact ⟨_, rfl, ok _ (by unfold jn; simp [g1, g2])⟩
  by_cases q4 : q = 4
  · subst q4
    rw [show kcl 4 0 = 15 from rfl]
    simp (disch := omega) only [↓br_eqT, ↓br_eqF, br_lgge, br_lgle, br_lggt, br_lglt, br_lgeq, br_el]
    by_cases g1 : a = 0
    · by_cases g2 : b = 0
      · simp only [if_pos g1, if_pos g2]; exact ⟨_, rfl, ok _ (by unfold jn; simp [g1, g2])⟩
      · simp only [if_pos g1, if_neg g2]; exact ⟨_, rfl, ok _ (by unfold jn; simp [g1, g2])⟩
    · by_cases g2 : b = 0
      · simp only [if_neg g1, if_pos g2]; exact ⟨_, rfl, ok _ (by unfold jn; simp [g1, g2])⟩
      · simp only [if_neg g1, if_neg g2]; exact ⟨_, rfl, ok _ (by unfold jn; simp [g1, g2])⟩
  by_cases q5 : q = 5
  · subst q5
    rw [show kcl 5 0 = 30 from rfl]
    simp (disch := omega) only [↓br_eqT, ↓br_eqF, br_lgge, br_lgle, br_lggt, br_lglt, br_lgeq, br_el]
    by_cases g1 : b ≤ a
    · simp only [if_pos g1]; exact ⟨_, rfl, ok _ (by unfold jn; simp only [Nat.reduceEqDiff, if_false, if_true, if_pos g1])⟩
    · simp only [if_neg g1]; exact ⟨_, rfl, ok _ (by unfold jn; simp only [Nat.reduceEqDiff, if_false, if_true, if_neg g1])⟩
  by_cases q6 : q = 6
  · subst q6
    rw [show kcl 6 0 = 31 from rfl]
    simp (disch := omega) only [↓br_eqT, ↓br_eqF, br_lgge, br_lgle, br_lggt, br_lglt, br_lgeq, br_el]
    by_cases g1 : b < a
    · simp only [if_pos g1]; exact ⟨_, rfl, ok _ (by unfold jn; simp only [Nat.reduceEqDiff, if_false, if_true, if_pos g1])⟩
    · simp only [if_neg g1]; exact ⟨_, rfl, ok _ (by unfold jn; simp only [Nat.reduceEqDiff, if_false, if_true, if_neg g1])⟩
  by_cases q7 : q = 7
  · subst q7
    rw [show kcl 7 0 = 32 from rfl]
    simp (disch := omega) only [↓br_eqT, ↓br_eqF, br_lgge, br_lgle, br_lggt, br_lglt, br_lgeq, br_el]
    by_cases g1 : a = b
    · simp only [if_pos g1]; exact ⟨_, rfl, ok _ (by unfold jn; simp only [Nat.reduceEqDiff, if_false, if_true, if_pos g1])⟩
    · simp only [if_neg g1]; exact ⟨_, rfl, ok _ (by unfold jn; simp only [Nat.reduceEqDiff, if_false, if_true, if_neg g1])⟩
  by_cases q8 : q = 8
  · subst q8
    rw [show kcl 8 0 = 33 from rfl]
    simp (disch := omega) only [↓br_eqT, ↓br_eqF, br_lgge, br_lgle, br_lggt, br_lglt, br_lgeq, br_el]
    by_cases g1 : a = b
    · simp only [if_pos g1]; exact ⟨_, rfl, ok _ (by unfold jn; simp only [Nat.reduceEqDiff, if_false, if_true, if_pos g1])⟩
    · simp only [if_neg g1]; exact ⟨_, rfl, ok _ (by unfold jn; simp only [Nat.reduceEqDiff, if_false, if_true, if_neg g1])⟩
  by_cases q9 : q = 9
  · subst q9
    rw [show kcl 9 0 = 34 from rfl]
    simp (disch := omega) only [↓br_eqT, ↓br_eqF, br_lgge, br_lgle, br_lggt, br_lglt, br_lgeq, br_el]
    by_cases g1 : a < b
    · simp only [if_pos g1]; exact ⟨_, rfl, ok _ (by unfold jn; simp only [Nat.reduceEqDiff, if_false, if_true, if_pos g1])⟩
    · simp only [if_neg g1]; exact ⟨_, rfl, ok _ (by unfold jn; simp only [Nat.reduceEqDiff, if_false, if_true, if_neg g1])⟩
  by_cases q10 : q = 10
  · subst q10
    rw [show kcl 10 0 = 35 from rfl]
    simp (disch := omega) only [↓br_eqT, ↓br_eqF, br_lgge, br_lgle, br_lggt, br_lglt, br_lgeq, br_el]
    by_cases g1 : a ≤ b
    · simp only [if_pos g1]; exact ⟨_, rfl, ok _ (by unfold jn; simp only [Nat.reduceEqDiff, if_false, if_true, if_pos g1])⟩
    · simp only [if_neg g1]; exact ⟨_, rfl, ok _ (by unfold jn; simp only [Nat.reduceEqDiff, if_false, if_true, if_neg g1])⟩
  by_cases q11 : q = 11
  · subst q11
    rw [show kcl 11 0 = 36 from rfl]
    simp (disch := omega) only [↓br_eqT, ↓br_eqF, br_lgge, br_lgle, br_lggt, br_lglt, br_lgeq, br_el]
    refine ⟨_, rfl, ?_⟩
    by_cases g1 : 1000000000000 < a + b
    · exact Or.inr ⟨by unfold jn; simp only [Nat.reduceEqDiff, if_false, if_true, if_pos g1], by rw [bd_iff]; exact fun h => Int64.not_lt.mpr h.2 g1⟩
    · by_cases g2 : -1000000000000 ≤ a + b
      · exact ok _ (by unfold jn; simp only [Nat.reduceEqDiff, if_false, if_true, if_neg g1, if_pos g2])
      · exact Or.inr ⟨by unfold jn; simp only [Nat.reduceEqDiff, if_false, if_true, if_neg g1, if_neg g2], by rw [bd_iff]; exact fun h => g2 (Int64.not_lt.mp h.1)⟩
  by_cases q12 : q = 12
  · subst q12
    rw [show kcl 12 0 = 37 from rfl]
    simp (disch := omega) only [↓br_eqT, ↓br_eqF, br_lgge, br_lgle, br_lggt, br_lglt, br_lgeq, br_el]
    refine ⟨_, rfl, ?_⟩
    by_cases g1 : 1000000000000 < a - b
    · exact Or.inr ⟨by unfold jn; simp only [Nat.reduceEqDiff, if_false, if_true, if_pos g1], by rw [bd_iff]; exact fun h => Int64.not_lt.mpr h.2 g1⟩
    · by_cases g2 : -1000000000000 ≤ a - b
      · exact ok _ (by unfold jn; simp only [Nat.reduceEqDiff, if_false, if_true, if_neg g1, if_pos g2])
      · exact Or.inr ⟨by unfold jn; simp only [Nat.reduceEqDiff, if_false, if_true, if_neg g1, if_neg g2], by rw [bd_iff]; exact fun h => g2 (Int64.not_lt.mp h.1)⟩
  by_cases q13 : q = 13
  · subst q13
    rw [show kcl 13 0 = 38 from rfl]
    simp (disch := omega) only [↓br_eqT, ↓br_eqF, br_lgge, br_lgle, br_lggt, br_lglt, br_lgeq, br_el]
    by_cases g1 : a = 0
    · simp only [if_pos g1]; exact ⟨_, rfl, ok _ (by unfold jn; simp only [Nat.reduceEqDiff, if_false, if_true, if_pos g1])⟩
    · have g3 : am_labs a ≠ 0 := by
        intro e
        have e1 := labs_i ha
        rw [e, l0] at e1
        have e2 := i64_ne g1
        split at e1 <;> omega
      simp only [if_neg g1, if_neg g3]
      by_cases g2 : am_labs b ≤ 1000000000000 / am_labs a
      · simp only [if_pos g2]; exact ⟨_, rfl, ok _ (by unfold jn; simp only [Nat.reduceEqDiff, if_false, if_true, if_neg g1, if_pos g2])⟩
      · simp only [if_neg g2]; exact ⟨_, rfl, Or.inr ⟨by unfold jn; simp only [Nat.reduceEqDiff, if_false, if_true, if_neg g1, if_neg g2], bd_lmin⟩⟩
  by_cases q14 : q = 14
  · subst q14
    rw [show kcl 14 0 = 39 from rfl]
    simp (disch := omega) only [↓br_eqT, ↓br_eqF, br_lgge, br_lgle, br_lggt, br_lglt, br_lgeq, br_el]
    by_cases g1 : b = 0
    · simp only [if_pos g1]; exact ⟨_, rfl, Or.inr ⟨by unfold jn; simp only [Nat.reduceEqDiff, if_false, if_pos g1], bd_lmin⟩⟩
    · simp only [if_neg g1]; exact ⟨_, rfl, ok _ (by unfold jn; simp only [Nat.reduceEqDiff, if_false, if_neg g1])⟩
  exfalso; omega
