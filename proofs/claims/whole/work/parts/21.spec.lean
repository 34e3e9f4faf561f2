/-! who has what, the wall: pure -/
def sp_sum (f : Nat → Nat) : Nat → Nat → Nat
  | 0, _ => 0
  | r + 1, i => f i + sp_sum f r (i + 1)
theorem sum_ext {f g : Nat → Nat} (r : Nat) : ∀ i, (∀ j, i ≤ j → j < i + r → f j = g j) → sp_sum f r i = sp_sum g r i := by
  induction r with
  | zero => intro i _; rfl
  | succ r ih =>
    intro i h
    rw [sp_sum, sp_sum, h i (by omega) (by omega), ih (i + 1) (fun j h1 h2 => h j (by omega) (by omega))]
theorem sum_ge {f : Nat → Nat} (r : Nat) : ∀ i j, i ≤ j → j < i + r → f j ≤ sp_sum f r i := by
  induction r with
  | zero => intro i j h1 h2; omega
  | succ r ih =>
    intro i j h1 h2
    rw [sp_sum]
    rcases Nat.eq_or_lt_of_le h1 with h | h
    · subst h; omega
    · have := ih (i + 1) j (by omega) (by omega); omega
theorem sum_le {f : Nat → Nat} (hf : ∀ j, f j ≤ 1) (r : Nat) : ∀ i, sp_sum f r i ≤ r := by
  induction r with
  | zero => intro i; exact Nat.le_refl _
  | succ r ih => intro i; rw [sp_sum]; have := ih (i + 1); have := hf i; omega
def sp_set (h : Nat → Option Nat) (t : Nat) (x : Option Nat) : Nat → Option Nat := fun j => if j = t then x else h j
theorem set_at (h : Nat → Option Nat) (t : Nat) (x : Option Nat) : sp_set h t x t = x := if_pos rfl
theorem set_ne {h : Nat → Option Nat} {t j : Nat} {x : Option Nat} (e : j ≠ t) : sp_set h t x j = h j := if_neg e
theorem sum_set {g : Option Nat → Nat} {h : Nat → Option Nat} {t : Nat} {x : Option Nat} (r : Nat) : ∀ i, i ≤ t → t < i + r →
    sp_sum (fun j => g (sp_set h t x j)) r i + g (h t) = sp_sum (fun j => g (h j)) r i + g x := by
  induction r with
  | zero => intro i h1 h2; omega
  | succ r ih =>
    intro i h1 h2
    rw [sp_sum, sp_sum]
    rcases Nat.eq_or_lt_of_le h1 with e | e
    · subst e
      have : sp_sum (fun j => g (sp_set h i x j)) r (i + 1) = sp_sum (fun j => g (h j)) r (i + 1) :=
        sum_ext r (i + 1) (fun j h3 h4 => by show g (sp_set h i x j) = g (h j); rw [set_ne (by omega)])
      rw [this, set_at]; omega
    · have := ih (i + 1) (by omega) (by omega)
      rw [set_ne (h := h) (t := t) (j := i) (x := x) (by omega)]; omega
def sp_own (n : Nat) (h : Nat → Option Nat) : Nat := sp_sum (fun i => if h i = some i then 1 else 0) n 0
def sp_is (s : Nat) (o : Option Nat) : Nat := if o = some s then 1 else 0
def sp_ne (o : Option Nat) : Nat := if o = none then 0 else 1
def sp_ct (n : Nat) (h : Nat → Option Nat) (s : Nat) : Nat := sp_sum (fun i => sp_is s (h i)) n 0
def sp_cn (n : Nat) (h : Nat → Option Nat) : Nat := sp_sum (fun i => sp_ne (h i)) n 0
/-- each shadow is in one place -/
def hwI (n : Nat) (h : Nat → Option Nat) (w : List Nat) : Prop := (∀ s, w.count s + sp_ct n h s = if s < n then 1 else 0) ∧ w.length + sp_cn n h = n
theorem ct_set {n : Nat} {h : Nat → Option Nat} {t s : Nat} {x : Option Nat} (ht : t < n) : sp_ct n (sp_set h t x) s + sp_is s (h t) = sp_ct n h s + sp_is s x := sum_set (g := sp_is s) n 0 (by omega) (by omega)
theorem cn_set {n : Nat} {h : Nat → Option Nat} {t : Nat} {x : Option Nat} (ht : t < n) : sp_cn n (sp_set h t x) + sp_ne (h t) = sp_cn n h + sp_ne x := sum_set (g := sp_ne) n 0 (by omega) (by omega)
theorem hw_h {n : Nat} {h : Nat → Option Nat} {w : List Nat} (I : hwI n h w) {i s : Nat} (hi : i < n) (e : h i = some s) : s < n := by
  have h1 := I.1 s
  have h2 : sp_is s (h i) ≤ sp_ct n h s := sum_ge (f := fun i => sp_is s (h i)) n 0 i (by omega) (by omega)
  rw [e, sp_is, if_pos rfl] at h2
  by_cases h3 : s < n
  · exact h3
  · rw [if_neg h3] at h1; omega
theorem hw_w {n : Nat} {h : Nat → Option Nat} {w : List Nat} (I : hwI n h w) {s : Nat} (hs : s ∈ w) : s < n := by
  have h1 := I.1 s
  have h2 : 0 < w.count s := List.count_pos_iff.mpr hs
  by_cases h3 : s < n
  · exact h3
  · rw [if_neg h3] at h1; omega
theorem hw_g {n : Nat} {h : Nat → Option Nat} {w : List Nat} (I : hwI n h w) {i : Nat} (hi : i < w.length) : w.getD i 0 < n := by
  apply hw_w I
  rw [List.getD_eq_getElem?_getD, List.getElem?_eq_getElem hi]
  exact List.getElem_mem hi
theorem hw_len {n : Nat} {h : Nat → Option Nat} {w : List Nat} (I : hwI n h w) : w.length ≤ n := by have := I.2; omega
/-- a thing's shadow goes to the wall -/
theorem hw_bring {n : Nat} {h : Nat → Option Nat} {w : List Nat} (I : hwI n h w) {t s : Nat} (ht : t < n) (e : h t = some s) : hwI n (sp_set h t none) (w ++ [s]) := by
  constructor
  · intro q
    have h1 := I.1 q
    have h2 := ct_set (n := n) (h := h) (t := t) (s := q) (x := none) ht
    rw [e] at h2
    rw [List.count_append, List.count_singleton]
    simp only [sp_is, Option.some.injEq, reduceCtorEq, if_false] at h2
    by_cases hq : s = q
    · simp only [hq, if_true, beq_self_eq_true] at h2 ⊢; omega
    · simp only [hq, if_false, beq_iff_eq] at h2 ⊢; omega
  · have h2 := cn_set (n := n) (h := h) (t := t) (x := none) ht
    rw [e] at h2
    simp only [sp_ne, reduceCtorEq, if_false, if_true] at h2
    have := I.2
    rw [List.length_append, List.length_singleton]; omega
theorem count_erase (w : List Nat) : ∀ (j q : Nat), j < w.length → (w.eraseIdx j).count q + (if w.getD j 0 = q then 1 else 0) = w.count q := by
  induction w with
  | nil => intro j q h; exact absurd h (by simp)
  | cons a w ih =>
    intro j q h
    cases j with
    | zero => simp only [List.eraseIdx_cons_zero, List.getD_cons_zero, List.count_cons, beq_iff_eq]
    | succ j =>
      have := ih j q (by simpa using h)
      simp only [List.eraseIdx_cons_succ, List.getD_cons_succ, List.count_cons, beq_iff_eq]; omega
/-- a thing without gets one of the wall -/
theorem hw_take {n : Nat} {h : Nat → Option Nat} {w : List Nat} (I : hwI n h w) {t j : Nat} (ht : t < n) (e : h t = none) (hj : j < w.length) : hwI n (sp_set h t (some (w.getD j 0))) (w.eraseIdx j) := by
  constructor
  · intro q
    have h1 := I.1 q
    have h2 := ct_set (n := n) (h := h) (t := t) (s := q) (x := some (w.getD j 0)) ht
    have h3 := count_erase w j q hj
    rw [e] at h2
    simp only [sp_is, Option.some.injEq, reduceCtorEq, if_false] at h2
    omega
  · have h2 := cn_set (n := n) (h := h) (t := t) (x := some (w.getD j 0)) ht
    rw [e] at h2
    simp only [sp_ne, reduceCtorEq, if_false, if_true] at h2
    have := I.2
    rw [List.length_eraseIdx_of_lt hj]; omega
def sp_swp (h : Nat → Option Nat) (a b : Nat) : Nat → Option Nat := sp_set (sp_set h a (h b)) b (h a)
theorem hw_swp {n : Nat} {h : Nat → Option Nat} {w : List Nat} (I : hwI n h w) {a b : Nat} (ha : a < n) (hb : b < n) (hab : a ≠ b) : hwI n (sp_swp h a b) w := by
  unfold sp_swp
  constructor
  · intro q
    have h1 := I.1 q
    have h2 := ct_set (n := n) (h := h) (t := a) (s := q) (x := h b) ha
    have h3 := ct_set (n := n) (h := sp_set h a (h b)) (t := b) (s := q) (x := h a) hb
    rw [set_ne (by omega)] at h3
    omega
  · have h2 := cn_set (n := n) (h := h) (t := a) (x := h b) ha
    have h3 := cn_set (n := n) (h := sp_set h a (h b)) (t := b) (x := h a) hb
    rw [set_ne (by omega)] at h3
    have := I.2
    omega
/-- the first least one of those that a test takes -/
def sp_bt (f : Nat → Int64) (i : Nat) : Option Nat → Option Nat
  | none => some i
  | some j => if f i < f j then some i else some j
def sp_min (p : Nat → Bool) (f : Nat → Int64) : Nat → Nat → Option Nat → Option Nat
  | 0, _, acc => acc
  | r + 1, i, acc => sp_min p f r (i + 1) (if p i = true then sp_bt f i acc else acc)
theorem min_in {p : Nat → Bool} {f : Nat → Int64} (r : Nat) : ∀ (i : Nat) (acc : Option Nat) (t : Nat), sp_min p f r i acc = some t → acc = some t ∨ (i ≤ t ∧ t < i + r ∧ p t = true) := by
  induction r with
  | zero => intro i acc t h; exact Or.inl h
  | succ r ih =>
    intro i acc t h
    rw [sp_min] at h
    rcases ih _ _ _ h with h1 | ⟨h1, h2, h3⟩
    · by_cases hp : p i = true
      · rw [if_pos hp] at h1
        cases acc with
        | none => cases h1; exact Or.inr ⟨by omega, by omega, hp⟩
        | some j =>
          rw [sp_bt] at h1
          split at h1
          · cases h1; exact Or.inr ⟨by omega, by omega, hp⟩
          · exact Or.inl h1
      · rw [if_neg hp] at h1; exact Or.inl h1
    · exact Or.inr ⟨by omega, by omega, h3⟩
theorem min_none {p : Nat → Bool} {f : Nat → Int64} (r : Nat) : ∀ (i : Nat) (acc : Option Nat), sp_min p f r i acc = none → acc = none ∧ ∀ t, i ≤ t → t < i + r → p t = false := by
  induction r with
  | zero => intro i acc h; exact ⟨h, fun t h1 h2 => by omega⟩
  | succ r ih =>
    intro i acc h
    rw [sp_min] at h
    obtain ⟨h1, h2⟩ := ih _ _ h
    by_cases hp : p i = true
    · rw [if_pos hp] at h1
      cases acc with
      | none => cases h1
      | some j => rw [sp_bt] at h1; split at h1 <;> cases h1
    · rw [if_neg hp] at h1
      refine ⟨h1, fun t h3 h4 => ?_⟩
      rcases Nat.eq_or_lt_of_le h3 with e | e
      · subst e; exact Bool.eq_false_iff.mpr hp
      · exact h2 t (by omega) (by omega)
