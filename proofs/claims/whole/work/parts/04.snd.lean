/-! soundness of the abstract machine: values, cells, locals -/
def am_cv (base : Nat) : Value → Value
  | .ref k => .ref (base + k)
  | v => v
theorem am_cv_cat (base : Nat) (v : Value) : (am_cv base v).category = v.category := by cases v <;> rfl
theorem am_cv_ca (base : Nat) (st : List Value) : ((st.map (am_cv base)).map fun v => v.category).sum = am_ca st := by
  unfold am_ca
  rw [List.map_map]
  congr 1
  exact List.map_congr_left (fun v _ => am_cv_cat base v)
def am_fv (base : Nat) (m : am_M) (k j f : Nat) : Value := match f with
  | 0 => .int (m.1 k j)
  | 1 => .int (m.1 k j)
  | 2 => .long (m.2 k j)
  | f + 3 => .ref (base + f)
def am_ce (dA : Nat → ClassId) (base : Nat) (m : am_M) (k : Nat) (g : am_D) : va_E := match g with
  | (4, n, fs) => .inr (n, fs.mapIdx (fun j f => am_fv base m k j f))
  | (3, n, _) => .inl (dA 3, n, .inr (.inl (m.2 k)))
  | (t, n, _) => .inl (dA t, n, .inl (m.1 k))
def am_pw (G : List am_D) (dA : Nat → ClassId) (base : Nat) (m : am_M) : va_W := G.mapIdx (fun k g => (base + k, am_ce dA base m k g))
theorem am_at_eq {α : Type} : ∀ (l : List α) (n : Nat), am_at l n = l[n]?
  | [], n => by simp [am_at]
  | a :: l, 0 => by simp [am_at]
  | a :: l, n + 1 => by simp [am_at, am_at_eq l n]
theorem am_ce_same {dA : Nat → ClassId} {base : Nat} {m m' : am_M} {k : Nat} (g : am_D) (h1 : m'.1 k = m.1 k) (h2 : m'.2 k = m.2 k) : am_ce dA base m' k g = am_ce dA base m k g := by
  have h3 : ∀ j f, am_fv base m' k j f = am_fv base m k j f := by
    intro j f
    unfold am_fv
    split <;> simp [h1, h2]
  unfold am_ce
  split
  · simp [h3]
  · simp [h2]
  · simp [h1]
theorem am_pw_get {G : List am_D} {dA : Nat → ClassId} {base : Nat} {m : am_M} {k : Nat} {g : am_D} (h : am_at G k = some g) : (am_pw G dA base m)[k]? = some (base + k, am_ce dA base m k g) := by
  rw [am_at_eq] at h
  simp [am_pw, List.getElem?_mapIdx, h]
theorem am_pw_set {G : List am_D} {dA : Nat → ClassId} {base : Nat} {m m' : am_M} {k : Nat} {g : am_D} {x : va_E} (h : am_at G k = some g) (hk : ∀ j, j ≠ k → m'.1 j = m.1 j ∧ m'.2 j = m.2 j) (hx : x = am_ce dA base m' k g) : (am_pw G dA base m).set k (base + k, x) = am_pw G dA base m' := by
  subst hx
  have hl : k < G.length := by
    rw [am_at_eq] at h
    exact (List.getElem?_eq_some_iff.mp h).1
  apply List.ext_getElem?
  intro j
  by_cases hj : j = k
  · subst hj
    rw [am_pw_get h, List.getElem?_set_self (by simp [am_pw, hl])]
  · rw [List.getElem?_set_ne (Ne.symm hj)]
    simp only [am_pw, List.getElem?_mapIdx]
    cases hg : G[j]? with
    | none => rfl
    | some q => simp [am_ce_same (dA := dA) (base := base) q (hk j hj).1 (hk j hj).2]
theorem am_w_ne {f : Nat → Nat → Int32} {a i j : Nat} {x : Int32} (h : j ≠ a) : am_w f a i x j = f j := by simp [am_w, h]
theorem am_wl_ne {f : Nat → Nat → Int64} {a i j : Nat} {x : Int64} (h : j ≠ a) : am_wl f a i x j = f j := by simp [am_wl, h]
theorem am_wc_ne {f : Nat → Nat → Int32} {a0 a sp dp n j : Nat} (h : j ≠ a) : am_wc f a0 a sp dp n j = f j := by simp [am_wc, h]
/-- the locals of the machine hold those of the list -/
def am_LH (base nL : Nat) (arr : Array Slot) (ls : am_L) : Prop := ls.length = nL ∧ arr.size = nL ∧ lv_wf arr ∧ ∀ (i : Nat) (v : Value), ls.getD i none = some v → arr[i]? = some (.val (am_cv base v))
def am_pr (base : Nat) (ls : am_L) : List (Nat × Value) := (List.range ls.length).filterMap (fun i => (ls.getD i none).map (fun v => (i, am_cv base v)))
theorem am_pr_mem {base : Nat} {ls : am_L} {q : Nat × Value} : q ∈ am_pr base ls ↔ ∃ v, ls.getD q.1 none = some v ∧ q.2 = am_cv base v := by
  simp only [am_pr, List.mem_filterMap, List.mem_range, Option.map_eq_some_iff]
  constructor
  · rintro ⟨i, -, v, h, rfl⟩
    exact ⟨v, h, rfl⟩
  · rintro ⟨v, h, e⟩
    refine ⟨q.1, ?_, v, h, ?_⟩
    · rcases Nat.lt_or_ge q.1 ls.length with h1 | h1
      · exact h1
      · rw [List.getD_eq_getElem?_getD, List.getElem?_eq_none h1] at h
        cases h
    · rw [← e]
theorem am_LH.has {base nL : Nat} {arr : Array Slot} {ls : am_L} (h : am_LH base nL arr ls) : lv_has arr nL (am_pr base ls) := by
  refine ⟨h.2.1, h.2.2.1, fun q hq => ?_⟩
  obtain ⟨v, h1, h2⟩ := am_pr_mem.mp hq
  rw [h2]
  exact h.2.2.2 _ _ h1
theorem am_getD_set {ls : am_L} {i j : Nat} {x : Option Value} : (ls.set i x).getD j none = if i = j then (if i < ls.length then x else none) else ls.getD j none := by
  simp only [List.getD_eq_getElem?_getD, List.getElem?_set]
  split
  · split <;> simp
  · rfl
theorem am_cl_len (ls : am_L) (i : Nat) : (am_cl ls i).length = ls.length := by
  cases i with
  | zero => rfl
  | succ j =>
    show (if am_c2 (ls.getD j none) = true then ls.set j none else ls).length = ls.length
    split <;> simp
theorem am_c2_cat {v : Value} (h : v.category = 2) : am_c2 (some v) = true := by cases v <;> first | rfl | simp [Value.category] at h
theorem am_cl_get {ls : am_L} {i j : Nat} {w : Value} (h : (am_cl ls i).getD j none = some w) : ls.getD j none = some w ∧ ¬ (j + 1 = i ∧ w.category = 2) := by
  cases i with
  | zero => exact ⟨h, fun q => by omega⟩
  | succ k =>
    change (if am_c2 (ls.getD k none) = true then ls.set k none else ls).getD j none = some w at h
    split at h
    · rename_i hc
      rw [am_getD_set] at h
      split at h
      · split at h <;> cases h
      · rename_i hne
        exact ⟨h, fun q => hne (by omega)⟩
    · rename_i hc
      refine ⟨h, fun q => hc ?_⟩
      have : j = k := by omega
      subst this
      rw [h]
      exact am_c2_cat q.2
theorem am_LH.st1 {base nL : Nat} {arr arr' : Array Slot} {ls : am_L} {i : Nat} {v : Value} (h : am_LH base nL arr ls) (hn : lv_has arr' nL ((i, am_cv base v) :: (am_pr base ls).filter (fun q => !(q.1 == i) && !(q.1 + 1 == i && q.2.category == 2)))) : am_LH base nL arr' (am_s1 ls i v) := by
  refine ⟨by simp [am_s1, am_cl_len, h.1], hn.1, hn.2.1, fun j w hw => ?_⟩
  unfold am_s1 at hw
  rw [am_getD_set] at hw
  split at hw
  · rename_i hij
    subst hij
    split at hw
    · cases hw
      exact hn.2.2 _ List.mem_cons_self
    · cases hw
  · rename_i hij
    obtain ⟨h1, h2⟩ := am_cl_get hw
    refine hn.2.2 (j, am_cv base w) (List.mem_cons_of_mem _ (List.mem_filter.mpr ⟨am_pr_mem.mpr ⟨w, h1, rfl⟩, ?_⟩))
    simp only [Bool.and_eq_true, Bool.not_eq_true', beq_eq_false_iff_ne, ne_eq, Bool.and_eq_false_iff]
    refine ⟨fun q => hij q.symm, ?_⟩
    by_cases h3 : j + 1 = i
    · right
      rw [am_cv_cat]
      exact fun q => h2 ⟨h3, q⟩
    · exact Or.inl h3
theorem am_LH.st2 {base nL : Nat} {arr arr' : Array Slot} {ls : am_L} {i : Nat} {v : Value} (h : am_LH base nL arr ls) (hn : lv_has arr' nL ((i, am_cv base v) :: (am_pr base ls).filter (fun q => !(q.1 == i) && (!(q.1 == i + 1) && !(q.1 + 1 == i && q.2.category == 2))))) : am_LH base nL arr' (am_s2 ls i v) := by
  refine ⟨by simp [am_s2, am_cl_len, h.1], hn.1, hn.2.1, fun j w hw => ?_⟩
  unfold am_s2 at hw
  rw [am_getD_set] at hw
  split at hw
  · split at hw <;> cases hw
  rename_i hi1
  rw [am_getD_set] at hw
  split at hw
  · rename_i hij
    subst hij
    split at hw
    · cases hw
      exact hn.2.2 _ List.mem_cons_self
    · cases hw
  · rename_i hij
    obtain ⟨h1, h2⟩ := am_cl_get hw
    refine hn.2.2 (j, am_cv base w) (List.mem_cons_of_mem _ (List.mem_filter.mpr ⟨am_pr_mem.mpr ⟨w, h1, rfl⟩, ?_⟩))
    simp only [Bool.and_eq_true, Bool.not_eq_true', beq_eq_false_iff_ne, ne_eq, Bool.and_eq_false_iff]
    refine ⟨fun q => hij q.symm, fun q => hi1 q.symm, ?_⟩
    by_cases h3 : j + 1 = i
    · right
      rw [am_cv_cat]
      exact fun q => h2 ⟨h3, q⟩
    · exact Or.inl h3
/-- how many slots the arguments take -/
theorem am_en_len : ∀ (vs : List Value) (n : Nat), (lg_sl vs).length ≤ n → (am_en vs n).length = n
  | [], n, _ => by simp [am_en]
  | v :: vs, n, h => by
    unfold lg_sl at h
    rw [List.flatMap_cons, List.length_append] at h
    unfold am_en
    split
    · rename_i hc
      rw [if_pos hc] at h
      simp only [List.length_cons, List.length_nil] at h ⊢
      rw [am_en_len vs (n - 2) (by unfold lg_sl; omega)]
      omega
    · rename_i hc
      rw [if_neg hc] at h
      simp only [List.length_cons, List.length_nil] at h ⊢
      rw [am_en_len vs (n - 1) (by unfold lg_sl; omega)]
      omega
theorem am_en_get (base : Nat) : ∀ (vs : List Value) (n o j : Nat) (w : Value), (am_en vs n).getD j none = some w → (o + j, am_cv base w) ∈ lv_args o (vs.map (am_cv base))
  | [], n, o, j, w, h => by
    simp only [am_en, List.getD_eq_getElem?_getD, List.getElem?_replicate] at h
    split at h <;> cases h
  | v :: vs, n, o, j, w, h => by
    unfold am_en at h
    rw [List.map_cons]
    unfold lv_args
    rw [am_cv_cat]
    split at h
    · rename_i hc
      rw [if_pos hc]
      cases j with
      | zero =>
        simp at h
        subst h
        exact List.mem_cons_self
      | succ j =>
        cases j with
        | zero => simp at h
        | succ j =>
          have h' : (am_en vs (n - 2)).getD j none = some w := by simpa using h
          have := am_en_get base vs (n - 2) (o + 2) j w h'
          rw [show o + (j + 1 + 1) = o + 2 + j by omega]
          exact List.mem_cons_of_mem _ this
    · rename_i hc
      rw [if_neg hc]
      cases j with
      | zero =>
        simp at h
        subst h
        exact List.mem_cons_self
      | succ j =>
        have h' : (am_en vs (n - 1)).getD j none = some w := by simpa using h
        have := am_en_get base vs (n - 1) (o + 1) j w h'
        rw [show o + (j + 1) = o + 1 + j by omega]
        exact List.mem_cons_of_mem _ this
theorem am_sl_len (base : Nat) (vs : List Value) : (lg_sl (vs.map (am_cv base))).length = (lg_sl vs).length := by
  induction vs with
  | nil => rfl
  | cons v vs ih =>
    unfold lg_sl at ih ⊢
    rw [List.map_cons, List.flatMap_cons, List.flatMap_cons, List.length_append, List.length_append, ih, am_cv_cat]
    split <;> simp
theorem am_LH.entry {base n : Nat} {vs : List Value} (h : (lg_sl vs).length ≤ n) : am_LH base n ((lg_sl (vs.map (am_cv base)) ++ List.replicate (n - (lg_sl (vs.map (am_cv base))).length) Slot.unset).toArray) (am_en vs n) := by
  have h1 := lv_entry (vs.map (am_cv base)) (n := n) (by rw [am_sl_len]; exact h)
  refine ⟨am_en_len vs n h, h1.1, h1.2.1, fun i v hv => ?_⟩
  have h2 := am_en_get base vs n 0 i v hv
  rw [Nat.zero_add] at h2
  exact h1.2.2 _ h2
